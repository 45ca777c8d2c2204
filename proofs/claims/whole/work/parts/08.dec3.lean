theorem dX12_silent_71 : decode cX12_silent 71 = .ok (.invokevirtual 271, 3) := by decide +kernel
theorem dX12_silent_74 : decode cX12_silent 74 = .ok (.iconst (-1), 1) := by decide +kernel
theorem dX12_silent_75 : decode cX12_silent 75 = .ok (.ixor, 1) := by decide +kernel
theorem dX12_silent_76 : decode cX12_silent 76 = .ok (.iand, 1) := by decide +kernel
theorem dX12_silent_77 : decode cX12_silent 77 = .ok (.invokestatic 296, 3) := by decide +kernel
theorem dX12_silent_80 : decode cX12_silent 80 = .ok (.i2l, 1) := by decide +kernel
theorem dX12_silent_81 : decode cX12_silent 81 = .ok (.invokevirtual 267, 3) := by decide +kernel
theorem dX12_silent_84 : decode cX12_silent 84 = .ok (.aload_n 0, 1) := by decide +kernel
theorem dX12_silent_85 : decode cX12_silent 85 = .ok (.aload_n 0, 1) := by decide +kernel
theorem dX12_silent_86 : decode cX12_silent 86 = .ok (.aload_n 0, 1) := by decide +kernel
theorem dX12_silent_87 : decode cX12_silent 87 = .ok (.getfield 68, 3) := by decide +kernel
theorem dX12_silent_90 : decode cX12_silent 90 = .ok (.iconst 5, 1) := by decide +kernel
theorem dX12_silent_91 : decode cX12_silent 91 = .ok (.invokevirtual 271, 3) := by decide +kernel
theorem dX12_silent_94 : decode cX12_silent 94 = .ok (.aload_n 0, 1) := by decide +kernel
theorem dX12_silent_95 : decode cX12_silent 95 = .ok (.aload_n 0, 1) := by decide +kernel
theorem dX12_silent_96 : decode cX12_silent 96 = .ok (.getfield 9, 3) := by decide +kernel
theorem dX12_silent_99 : decode cX12_silent 99 = .ok (.iconst 5, 1) := by decide +kernel
theorem dX12_silent_100 : decode cX12_silent 100 = .ok (.invokevirtual 271, 3) := by decide +kernel
theorem dX12_silent_103 : decode cX12_silent 103 = .ok (.iconst (-1), 1) := by decide +kernel
theorem dX12_silent_104 : decode cX12_silent 104 = .ok (.ixor, 1) := by decide +kernel
theorem dX12_silent_105 : decode cX12_silent 105 = .ok (.iand, 1) := by decide +kernel
theorem dX12_silent_106 : decode cX12_silent 106 = .ok (.invokestatic 296, 3) := by decide +kernel
theorem dX12_silent_109 : decode cX12_silent 109 = .ok (.i2l, 1) := by decide +kernel
theorem dX12_silent_110 : decode cX12_silent 110 = .ok (.invokevirtual 267, 3) := by decide +kernel
theorem dX12_silent_113 : decode cX12_silent 113 = .ok (.aload_n 0, 1) := by decide +kernel
theorem dX12_silent_114 : decode cX12_silent 114 = .ok (.aload_n 0, 1) := by decide +kernel
theorem dX12_silent_115 : decode cX12_silent 115 = .ok (.getfield 68, 3) := by decide +kernel
theorem dX12_silent_118 : decode cX12_silent 118 = .ok (.iconst 0, 1) := by decide +kernel
theorem dX12_silent_119 : decode cX12_silent 119 = .ok (.invokevirtual 271, 3) := by decide +kernel
theorem dX12_silent_122 : decode cX12_silent 122 = .ok (.ireturn, 1) := by decide +kernel
theorem dX4_speakersIn_0 : decode cX4_speakersIn 0 = .ok (.iconst 0, 1) := by decide +kernel
theorem dX4_speakersIn_1 : decode cX4_speakersIn 1 = .ok (.istore_n 3, 1) := by decide +kernel
theorem dX4_speakersIn_2 : decode cX4_speakersIn 2 = .ok (.iconst 0, 1) := by decide +kernel
theorem dX4_speakersIn_3 : decode cX4_speakersIn 3 = .ok (.istore 4, 2) := by decide +kernel
theorem dX4_speakersIn_5 : decode cX4_speakersIn 5 = .ok (.iload 4, 2) := by decide +kernel
theorem dX4_speakersIn_7 : decode cX4_speakersIn 7 = .ok (.aload_n 0, 1) := by decide +kernel
theorem dX4_speakersIn_8 : decode cX4_speakersIn 8 = .ok (.getfield 35, 3) := by decide +kernel
theorem dX4_speakersIn_11 : decode cX4_speakersIn 11 = .ok (.getfield 119, 3) := by decide +kernel
theorem dX4_speakersIn_14 : decode cX4_speakersIn 14 = .ok (.if_icmp .ge 41, 3) := by decide +kernel
theorem dX4_speakersIn_17 : decode cX4_speakersIn 17 = .ok (.iload_n 3, 1) := by decide +kernel
theorem dX4_speakersIn_18 : decode cX4_speakersIn 18 = .ok (.aload_n 0, 1) := by decide +kernel
theorem dX4_speakersIn_19 : decode cX4_speakersIn 19 = .ok (.getfield 35, 3) := by decide +kernel
theorem dX4_speakersIn_22 : decode cX4_speakersIn 22 = .ok (.getfield 143, 3) := by decide +kernel
theorem dX4_speakersIn_25 : decode cX4_speakersIn 25 = .ok (.iload 4, 2) := by decide +kernel
theorem dX4_speakersIn_27 : decode cX4_speakersIn 27 = .ok (.iaload, 1) := by decide +kernel
theorem dX4_speakersIn_28 : decode cX4_speakersIn 28 = .ok (.iload_n 1, 1) := by decide +kernel
theorem dX4_speakersIn_29 : decode cX4_speakersIn 29 = .ok (.if_icmp .ne 17, 3) := by decide +kernel
theorem dX4_speakersIn_32 : decode cX4_speakersIn 32 = .ok (.aload_n 0, 1) := by decide +kernel
theorem dX4_speakersIn_33 : decode cX4_speakersIn 33 = .ok (.iload 4, 2) := by decide +kernel
theorem dX4_speakersIn_35 : decode cX4_speakersIn 35 = .ok (.iload_n 2, 1) := by decide +kernel
theorem dX4_speakersIn_36 : decode cX4_speakersIn 36 = .ok (.invokevirtual 146, 3) := by decide +kernel
theorem dX4_speakersIn_39 : decode cX4_speakersIn 39 = .ok (.ifCond .le 7, 3) := by decide +kernel
theorem dX4_speakersIn_42 : decode cX4_speakersIn 42 = .ok (.iconst 1, 1) := by decide +kernel
theorem dX4_speakersIn_43 : decode cX4_speakersIn 43 = .ok (.goto 4, 3) := by decide +kernel
theorem dX4_speakersIn_46 : decode cX4_speakersIn 46 = .ok (.iconst 0, 1) := by decide +kernel
theorem dX4_speakersIn_47 : decode cX4_speakersIn 47 = .ok (.iadd, 1) := by decide +kernel
theorem dX4_speakersIn_48 : decode cX4_speakersIn 48 = .ok (.istore_n 3, 1) := by decide +kernel
theorem dX4_speakersIn_49 : decode cX4_speakersIn 49 = .ok (.iinc 4 1, 3) := by decide +kernel
theorem dX4_speakersIn_52 : decode cX4_speakersIn 52 = .ok (.goto (-47), 3) := by decide +kernel
theorem dX4_speakersIn_55 : decode cX4_speakersIn 55 = .ok (.iload_n 3, 1) := by decide +kernel
theorem dX4_speakersIn_56 : decode cX4_speakersIn 56 = .ok (.ireturn, 1) := by decide +kernel
theorem dX11_proof_0 : decode cX11_proof 0 = .ok (.aload_n 0, 1) := by decide +kernel
theorem dX11_proof_1 : decode cX11_proof 1 = .ok (.iload_n 1, 1) := by decide +kernel
theorem dX11_proof_2 : decode cX11_proof 2 = .ok (.invokevirtual 147, 3) := by decide +kernel
theorem dX11_proof_5 : decode cX11_proof 5 = .ok (.ifCond .eq 13, 3) := by decide +kernel
theorem dX11_proof_8 : decode cX11_proof 8 = .ok (.iload_n 2, 1) := by decide +kernel
theorem dX11_proof_9 : decode cX11_proof 9 = .ok (.ifCond .lt 9, 3) := by decide +kernel
theorem dX11_proof_12 : decode cX11_proof 12 = .ok (.iload_n 2, 1) := by decide +kernel
theorem dX11_proof_13 : decode cX11_proof 13 = .ok (.bipush 99, 2) := by decide +kernel
theorem dX11_proof_15 : decode cX11_proof 15 = .ok (.if_icmp .le 5, 3) := by decide +kernel
theorem dX11_proof_18 : decode cX11_proof 18 = .ok (.iconst (-1), 1) := by decide +kernel
theorem dX11_proof_19 : decode cX11_proof 19 = .ok (.ireturn, 1) := by decide +kernel
theorem dX11_proof_20 : decode cX11_proof 20 = .ok (.aload_n 0, 1) := by decide +kernel
theorem dX11_proof_21 : decode cX11_proof 21 = .ok (.getfield 65, 3) := by decide +kernel
theorem dX11_proof_24 : decode cX11_proof 24 = .ok (.iload_n 1, 1) := by decide +kernel
theorem dX11_proof_25 : decode cX11_proof 25 = .ok (.iload_n 2, 1) := by decide +kernel
theorem dX11_proof_26 : decode cX11_proof 26 = .ok (.invokevirtual 184, 3) := by decide +kernel
theorem dX11_proof_29 : decode cX11_proof 29 = .ok (.istore_n 3, 1) := by decide +kernel
theorem dX11_proof_30 : decode cX11_proof 30 = .ok (.aload_n 0, 1) := by decide +kernel
theorem dX11_proof_31 : decode cX11_proof 31 = .ok (.getfield 19, 3) := by decide +kernel
theorem dX11_proof_34 : decode cX11_proof 34 = .ok (.iload_n 3, 1) := by decide +kernel
theorem dX11_proof_35 : decode cX11_proof 35 = .ok (.bipush 100, 2) := by decide +kernel
theorem dX11_proof_37 : decode cX11_proof 37 = .ok (.if_icmp .lt 7, 3) := by decide +kernel
theorem dX11_proof_40 : decode cX11_proof 40 = .ok (.lconst 1, 1) := by decide +kernel
theorem dX11_proof_41 : decode cX11_proof 41 = .ok (.goto 4, 3) := by decide +kernel
theorem dX11_proof_44 : decode cX11_proof 44 = .ok (.lconst 0, 1) := by decide +kernel
theorem dX11_proof_45 : decode cX11_proof 45 = .ok (.aload_n 0, 1) := by decide +kernel
theorem dX11_proof_46 : decode cX11_proof 46 = .ok (.getfield 65, 3) := by decide +kernel
theorem dX11_proof_49 : decode cX11_proof 49 = .ok (.iload_n 1, 1) := by decide +kernel
theorem dX11_proof_50 : decode cX11_proof 50 = .ok (.iload_n 2, 1) := by decide +kernel
theorem dX11_proof_51 : decode cX11_proof 51 = .ok (.invokevirtual 303, 3) := by decide +kernel
theorem dX11_proof_54 : decode cX11_proof 54 = .ok (.i2l, 1) := by decide +kernel
theorem dX11_proof_55 : decode cX11_proof 55 = .ok (.invokevirtual 244, 3) := by decide +kernel
theorem dX11_proof_58 : decode cX11_proof 58 = .ok (.iload_n 3, 1) := by decide +kernel
theorem dX11_proof_59 : decode cX11_proof 59 = .ok (.ireturn, 1) := by decide +kernel
theorem dX12_proof_0 : decode cX12_proof 0 = .ok (.aload_n 0, 1) := by decide +kernel
theorem dX12_proof_1 : decode cX12_proof 1 = .ok (.iconst 0, 1) := by decide +kernel
theorem dX12_proof_2 : decode cX12_proof 2 = .ok (.putfield 95, 3) := by decide +kernel
theorem dX12_proof_5 : decode cX12_proof 5 = .ok (.aload_n 0, 1) := by decide +kernel
theorem dX12_proof_6 : decode cX12_proof 6 = .ok (.iload_n 1, 1) := by decide +kernel
theorem dX12_proof_7 : decode cX12_proof 7 = .ok (.invokevirtual 224, 3) := by decide +kernel
theorem dX12_proof_10 : decode cX12_proof 10 = .ok (.ifCond .eq 13, 3) := by decide +kernel
theorem dX12_proof_13 : decode cX12_proof 13 = .ok (.iload_n 2, 1) := by decide +kernel
theorem dX12_proof_14 : decode cX12_proof 14 = .ok (.iconst 0, 1) := by decide +kernel
theorem dX12_proof_15 : decode cX12_proof 15 = .ok (.bipush 99, 2) := by decide +kernel
theorem dX12_proof_17 : decode cX12_proof 17 = .ok (.invokestatic 104, 3) := by decide +kernel
theorem dX12_proof_20 : decode cX12_proof 20 = .ok (.ifCond .ne 5, 3) := by decide +kernel
theorem dX12_proof_23 : decode cX12_proof 23 = .ok (.iconst (-1), 1) := by decide +kernel
theorem dX12_proof_24 : decode cX12_proof 24 = .ok (.ireturn, 1) := by decide +kernel
theorem dX12_proof_25 : decode cX12_proof 25 = .ok (.iconst 0, 1) := by decide +kernel
theorem dX12_proof_26 : decode cX12_proof 26 = .ok (.istore_n 3, 1) := by decide +kernel
theorem dX12_proof_27 : decode cX12_proof 27 = .ok (.iconst 0, 1) := by decide +kernel
theorem dX12_proof_28 : decode cX12_proof 28 = .ok (.istore 4, 2) := by decide +kernel
theorem dX12_proof_30 : decode cX12_proof 30 = .ok (.iload 4, 2) := by decide +kernel
theorem dX12_proof_32 : decode cX12_proof 32 = .ok (.aload_n 0, 1) := by decide +kernel
theorem dX12_proof_33 : decode cX12_proof 33 = .ok (.getfield 181, 3) := by decide +kernel
theorem dX12_proof_36 : decode cX12_proof 36 = .ok (.if_icmp .ge 50, 3) := by decide +kernel
theorem dX12_proof_39 : decode cX12_proof 39 = .ok (.iload_n 3, 1) := by decide +kernel
theorem dX12_proof_40 : decode cX12_proof 40 = .ok (.aload_n 0, 1) := by decide +kernel
theorem dX12_proof_41 : decode cX12_proof 41 = .ok (.getfield 32, 3) := by decide +kernel
theorem dX12_proof_44 : decode cX12_proof 44 = .ok (.iload 4, 2) := by decide +kernel
theorem dX12_proof_46 : decode cX12_proof 46 = .ok (.iaload, 1) := by decide +kernel
theorem dX12_proof_47 : decode cX12_proof 47 = .ok (.iload_n 1, 1) := by decide +kernel
theorem dX12_proof_48 : decode cX12_proof 48 = .ok (.if_icmp .ne 29, 3) := by decide +kernel
theorem dX12_proof_51 : decode cX12_proof 51 = .ok (.aload_n 0, 1) := by decide +kernel
theorem dX12_proof_52 : decode cX12_proof 52 = .ok (.getfield 9, 3) := by decide +kernel
theorem dX12_proof_55 : decode cX12_proof 55 = .ok (.bipush 18, 2) := by decide +kernel
theorem dX12_proof_57 : decode cX12_proof 57 = .ok (.iload 4, 2) := by decide +kernel
theorem dX12_proof_59 : decode cX12_proof 59 = .ok (.iadd, 1) := by decide +kernel
theorem dX12_proof_60 : decode cX12_proof 60 = .ok (.iaload, 1) := by decide +kernel
theorem dX12_proof_61 : decode cX12_proof 61 = .ok (.iload_n 2, 1) := by decide +kernel
theorem dX12_proof_62 : decode cX12_proof 62 = .ok (.aload_n 0, 1) := by decide +kernel
theorem dX12_proof_63 : decode cX12_proof 63 = .ok (.getfield 35, 3) := by decide +kernel
theorem dX12_proof_66 : decode cX12_proof 66 = .ok (.iload 4, 2) := by decide +kernel
theorem dX12_proof_68 : decode cX12_proof 68 = .ok (.iaload, 1) := by decide +kernel
theorem dX12_proof_69 : decode cX12_proof 69 = .ok (.imul, 1) := by decide +kernel
theorem dX12_proof_70 : decode cX12_proof 70 = .ok (.if_icmp .le 7, 3) := by decide +kernel
theorem dX12_proof_73 : decode cX12_proof 73 = .ok (.iconst 1, 1) := by decide +kernel
theorem dX12_proof_74 : decode cX12_proof 74 = .ok (.goto 4, 3) := by decide +kernel
theorem dX12_proof_77 : decode cX12_proof 77 = .ok (.iconst 0, 1) := by decide +kernel
theorem dX12_proof_78 : decode cX12_proof 78 = .ok (.iadd, 1) := by decide +kernel
theorem dX12_proof_79 : decode cX12_proof 79 = .ok (.istore_n 3, 1) := by decide +kernel
theorem dX12_proof_80 : decode cX12_proof 80 = .ok (.iinc 4 1, 3) := by decide +kernel
theorem dX12_proof_83 : decode cX12_proof 83 = .ok (.goto (-53), 3) := by decide +kernel
theorem dX12_proof_86 : decode cX12_proof 86 = .ok (.aload_n 0, 1) := by decide +kernel
theorem dX12_proof_87 : decode cX12_proof 87 = .ok (.aload_n 0, 1) := by decide +kernel
theorem dX12_proof_88 : decode cX12_proof 88 = .ok (.getfield 9, 3) := by decide +kernel
theorem dX12_proof_91 : decode cX12_proof 91 = .ok (.iload_n 1, 1) := by decide +kernel
theorem dX12_proof_92 : decode cX12_proof 92 = .ok (.iload_n 2, 1) := by decide +kernel
theorem dX12_proof_93 : decode cX12_proof 93 = .ok (.invokevirtual 235, 3) := by decide +kernel
theorem dX12_proof_96 : decode cX12_proof 96 = .ok (.istore 4, 2) := by decide +kernel
theorem dX12_proof_98 : decode cX12_proof 98 = .ok (.aload_n 0, 1) := by decide +kernel
theorem dX12_proof_99 : decode cX12_proof 99 = .ok (.iconst 0, 1) := by decide +kernel
theorem dX12_proof_100 : decode cX12_proof 100 = .ok (.putfield 98, 3) := by decide +kernel
theorem dX12_proof_103 : decode cX12_proof 103 = .ok (.aload_n 0, 1) := by decide +kernel
theorem dX12_proof_104 : decode cX12_proof 104 = .ok (.iload 4, 2) := by decide +kernel
theorem dX12_proof_106 : decode cX12_proof 106 = .ok (.bipush 100, 2) := by decide +kernel
theorem dX12_proof_108 : decode cX12_proof 108 = .ok (.if_icmp .lt 7, 3) := by decide +kernel
theorem dX12_proof_111 : decode cX12_proof 111 = .ok (.lconst 1, 1) := by decide +kernel
theorem dX12_proof_112 : decode cX12_proof 112 = .ok (.goto 4, 3) := by decide +kernel
theorem dX12_proof_115 : decode cX12_proof 115 = .ok (.lconst 0, 1) := by decide +kernel
theorem dX12_proof_116 : decode cX12_proof 116 = .ok (.invokevirtual 267, 3) := by decide +kernel
theorem dX12_proof_119 : decode cX12_proof 119 = .ok (.aload_n 0, 1) := by decide +kernel
theorem dX12_proof_120 : decode cX12_proof 120 = .ok (.iload_n 3, 1) := by decide +kernel
theorem dX12_proof_121 : decode cX12_proof 121 = .ok (.i2l, 1) := by decide +kernel
theorem dX12_proof_122 : decode cX12_proof 122 = .ok (.invokevirtual 267, 3) := by decide +kernel
theorem dX12_proof_125 : decode cX12_proof 125 = .ok (.iload 4, 2) := by decide +kernel
theorem dX12_proof_127 : decode cX12_proof 127 = .ok (.ireturn, 1) := by decide +kernel
theorem dX11_till_0 : decode cX11_till 0 = .ok (.aload_n 0, 1) := by decide +kernel
theorem dX11_till_1 : decode cX11_till 1 = .ok (.iload_n 1, 1) := by decide +kernel
theorem dX11_till_2 : decode cX11_till 2 = .ok (.invokevirtual 147, 3) := by decide +kernel
theorem dX11_till_5 : decode cX11_till 5 = .ok (.ifCond .ne 5, 3) := by decide +kernel
theorem dX11_till_8 : decode cX11_till 8 = .ok (.iconst (-1), 1) := by decide +kernel
theorem dX11_till_9 : decode cX11_till 9 = .ok (.ireturn, 1) := by decide +kernel
theorem dX11_till_10 : decode cX11_till 10 = .ok (.aload_n 0, 1) := by decide +kernel
theorem dX11_till_11 : decode cX11_till 11 = .ok (.getfield 65, 3) := by decide +kernel
theorem dX11_till_14 : decode cX11_till 14 = .ok (.iload_n 1, 1) := by decide +kernel
theorem dX11_till_15 : decode cX11_till 15 = .ok (.bipush 99, 2) := by decide +kernel
theorem dX11_till_17 : decode cX11_till 17 = .ok (.invokevirtual 184, 3) := by decide +kernel
theorem dX11_till_20 : decode cX11_till 20 = .ok (.bipush 100, 2) := by decide +kernel
theorem dX11_till_22 : decode cX11_till 22 = .ok (.if_icmp .lt 6, 3) := by decide +kernel
theorem dX11_till_25 : decode cX11_till 25 = .ok (.bipush (-3), 2) := by decide +kernel
theorem dX11_till_27 : decode cX11_till 27 = .ok (.ireturn, 1) := by decide +kernel
theorem dX11_till_28 : decode cX11_till 28 = .ok (.bipush (-2), 2) := by decide +kernel
theorem dX11_till_30 : decode cX11_till 30 = .ok (.istore_n 2, 1) := by decide +kernel
theorem dX11_till_31 : decode cX11_till 31 = .ok (.iconst 0, 1) := by decide +kernel
theorem dX11_till_32 : decode cX11_till 32 = .ok (.istore_n 3, 1) := by decide +kernel
theorem dX11_till_33 : decode cX11_till 33 = .ok (.iload_n 3, 1) := by decide +kernel
theorem dX11_till_34 : decode cX11_till 34 = .ok (.bipush 99, 2) := by decide +kernel
theorem dX11_till_36 : decode cX11_till 36 = .ok (.if_icmp .gt 25, 3) := by decide +kernel
theorem dX11_till_39 : decode cX11_till 39 = .ok (.aload_n 0, 1) := by decide +kernel
theorem dX11_till_40 : decode cX11_till 40 = .ok (.getfield 65, 3) := by decide +kernel
theorem dX11_till_43 : decode cX11_till 43 = .ok (.iload_n 1, 1) := by decide +kernel
theorem dX11_till_44 : decode cX11_till 44 = .ok (.iload_n 3, 1) := by decide +kernel
theorem dX11_till_45 : decode cX11_till 45 = .ok (.invokevirtual 184, 3) := by decide +kernel
theorem dX11_till_48 : decode cX11_till 48 = .ok (.bipush 100, 2) := by decide +kernel
theorem dX11_till_50 : decode cX11_till 50 = .ok (.if_icmp .lt 5, 3) := by decide +kernel
theorem dX11_till_53 : decode cX11_till 53 = .ok (.iload_n 3, 1) := by decide +kernel
theorem dX11_till_54 : decode cX11_till 54 = .ok (.istore_n 2, 1) := by decide +kernel
theorem dX11_till_55 : decode cX11_till 55 = .ok (.iinc 3 1, 3) := by decide +kernel
theorem dX11_till_58 : decode cX11_till 58 = .ok (.goto (-25), 3) := by decide +kernel
theorem dX11_till_61 : decode cX11_till 61 = .ok (.iload_n 2, 1) := by decide +kernel
theorem dX11_till_62 : decode cX11_till 62 = .ok (.ireturn, 1) := by decide +kernel
theorem dX12_till_0 : decode cX12_till 0 = .ok (.aload_n 0, 1) := by decide +kernel
theorem dX12_till_1 : decode cX12_till 1 = .ok (.iconst 0, 1) := by decide +kernel
theorem dX12_till_2 : decode cX12_till 2 = .ok (.putfield 95, 3) := by decide +kernel
theorem dX12_till_5 : decode cX12_till 5 = .ok (.aload_n 0, 1) := by decide +kernel
theorem dX12_till_6 : decode cX12_till 6 = .ok (.iload_n 1, 1) := by decide +kernel
theorem dX12_till_7 : decode cX12_till 7 = .ok (.invokevirtual 224, 3) := by decide +kernel
theorem dX12_till_10 : decode cX12_till 10 = .ok (.ifCond .ne 5, 3) := by decide +kernel
theorem dX12_till_13 : decode cX12_till 13 = .ok (.iconst (-1), 1) := by decide +kernel
theorem dX12_till_14 : decode cX12_till 14 = .ok (.ireturn, 1) := by decide +kernel
theorem dX12_till_15 : decode cX12_till 15 = .ok (.aload_n 0, 1) := by decide +kernel
theorem dX12_till_16 : decode cX12_till 16 = .ok (.aload_n 0, 1) := by decide +kernel
theorem dX12_till_17 : decode cX12_till 17 = .ok (.getfield 9, 3) := by decide +kernel
theorem dX12_till_20 : decode cX12_till 20 = .ok (.iload_n 1, 1) := by decide +kernel
theorem dX12_till_21 : decode cX12_till 21 = .ok (.iconst 0, 1) := by decide +kernel
theorem dX12_till_22 : decode cX12_till 22 = .ok (.invokevirtual 235, 3) := by decide +kernel
theorem dX12_till_25 : decode cX12_till 25 = .ok (.bipush 100, 2) := by decide +kernel
theorem dX12_till_27 : decode cX12_till 27 = .ok (.if_icmp .ge 6, 3) := by decide +kernel
theorem dX12_till_30 : decode cX12_till 30 = .ok (.bipush (-2), 2) := by decide +kernel
theorem dX12_till_32 : decode cX12_till 32 = .ok (.ireturn, 1) := by decide +kernel
theorem dX12_till_33 : decode cX12_till 33 = .ok (.aload_n 0, 1) := by decide +kernel
theorem dX12_till_34 : decode cX12_till 34 = .ok (.aload_n 0, 1) := by decide +kernel
theorem dX12_till_35 : decode cX12_till 35 = .ok (.getfield 9, 3) := by decide +kernel
theorem dX12_till_38 : decode cX12_till 38 = .ok (.iload_n 1, 1) := by decide +kernel
theorem dX12_till_39 : decode cX12_till 39 = .ok (.bipush 100, 2) := by decide +kernel
theorem dX12_till_41 : decode cX12_till 41 = .ok (.invokevirtual 235, 3) := by decide +kernel
theorem dX12_till_44 : decode cX12_till 44 = .ok (.bipush 100, 2) := by decide +kernel
theorem dX12_till_46 : decode cX12_till 46 = .ok (.if_icmp .lt 6, 3) := by decide +kernel
theorem dX12_till_49 : decode cX12_till 49 = .ok (.bipush (-3), 2) := by decide +kernel
theorem dX12_till_51 : decode cX12_till 51 = .ok (.ireturn, 1) := by decide +kernel
theorem dX12_till_52 : decode cX12_till 52 = .ok (.iconst 0, 1) := by decide +kernel
theorem dX12_till_53 : decode cX12_till 53 = .ok (.istore_n 2, 1) := by decide +kernel
theorem dX12_till_54 : decode cX12_till 54 = .ok (.aload_n 0, 1) := by decide +kernel
theorem dX12_till_55 : decode cX12_till 55 = .ok (.aload_n 0, 1) := by decide +kernel
theorem dX12_till_56 : decode cX12_till 56 = .ok (.getfield 9, 3) := by decide +kernel
theorem dX12_till_59 : decode cX12_till 59 = .ok (.iload_n 1, 1) := by decide +kernel
theorem dX12_till_60 : decode cX12_till 60 = .ok (.iload_n 2, 1) := by decide +kernel
theorem dX12_till_61 : decode cX12_till 61 = .ok (.iconst 1, 1) := by decide +kernel
theorem dX12_till_62 : decode cX12_till 62 = .ok (.iadd, 1) := by decide +kernel
theorem dX12_till_63 : decode cX12_till 63 = .ok (.invokevirtual 235, 3) := by decide +kernel
theorem dX12_till_66 : decode cX12_till 66 = .ok (.bipush 100, 2) := by decide +kernel
theorem dX12_till_68 : decode cX12_till 68 = .ok (.if_icmp .lt 9, 3) := by decide +kernel
theorem dX12_till_71 : decode cX12_till 71 = .ok (.iinc 2 1, 3) := by decide +kernel
theorem dX12_till_74 : decode cX12_till 74 = .ok (.goto (-20), 3) := by decide +kernel
theorem dX12_till_77 : decode cX12_till 77 = .ok (.iload_n 2, 1) := by decide +kernel
theorem dX12_till_78 : decode cX12_till 78 = .ok (.ireturn, 1) := by decide +kernel
theorem dX2_worthOf_0 : decode cX2_worthOf 0 = .ok (.iconst 0, 1) := by decide +kernel
theorem dX2_worthOf_1 : decode cX2_worthOf 1 = .ok (.istore_n 2, 1) := by decide +kernel
theorem dX2_worthOf_2 : decode cX2_worthOf 2 = .ok (.iconst 0, 1) := by decide +kernel
theorem dX2_worthOf_3 : decode cX2_worthOf 3 = .ok (.istore_n 3, 1) := by decide +kernel
theorem dX2_worthOf_4 : decode cX2_worthOf 4 = .ok (.iload_n 3, 1) := by decide +kernel
theorem dX2_worthOf_5 : decode cX2_worthOf 5 = .ok (.bipush 8, 2) := by decide +kernel
theorem dX2_worthOf_7 : decode cX2_worthOf 7 = .ok (.if_icmp .ge 30, 3) := by decide +kernel
theorem dX2_worthOf_10 : decode cX2_worthOf 10 = .ok (.iload_n 2, 1) := by decide +kernel
theorem dX2_worthOf_11 : decode cX2_worthOf 11 = .ok (.iload_n 1, 1) := by decide +kernel
theorem dX2_worthOf_12 : decode cX2_worthOf 12 = .ok (.iload_n 3, 1) := by decide +kernel
theorem dX2_worthOf_13 : decode cX2_worthOf 13 = .ok (.ishr, 1) := by decide +kernel
theorem dX2_worthOf_14 : decode cX2_worthOf 14 = .ok (.iconst 1, 1) := by decide +kernel
theorem dX2_worthOf_15 : decode cX2_worthOf 15 = .ok (.iand, 1) := by decide +kernel
theorem dX2_worthOf_16 : decode cX2_worthOf 16 = .ok (.ifCond .ne 7, 3) := by decide +kernel
theorem dX2_worthOf_19 : decode cX2_worthOf 19 = .ok (.iconst 0, 1) := by decide +kernel
theorem dX2_worthOf_20 : decode cX2_worthOf 20 = .ok (.goto 9, 3) := by decide +kernel
theorem dX2_worthOf_23 : decode cX2_worthOf 23 = .ok (.aload_n 0, 1) := by decide +kernel
theorem dX2_worthOf_24 : decode cX2_worthOf 24 = .ok (.getfield 18, 3) := by decide +kernel
theorem dX2_worthOf_27 : decode cX2_worthOf 27 = .ok (.iload_n 3, 1) := by decide +kernel
theorem dX2_worthOf_28 : decode cX2_worthOf 28 = .ok (.iaload, 1) := by decide +kernel
theorem dX2_worthOf_29 : decode cX2_worthOf 29 = .ok (.iadd, 1) := by decide +kernel
theorem dX2_worthOf_30 : decode cX2_worthOf 30 = .ok (.istore_n 2, 1) := by decide +kernel
theorem dX2_worthOf_31 : decode cX2_worthOf 31 = .ok (.iinc 3 1, 3) := by decide +kernel
theorem dX2_worthOf_34 : decode cX2_worthOf 34 = .ok (.goto (-30), 3) := by decide +kernel
theorem dX2_worthOf_37 : decode cX2_worthOf 37 = .ok (.iload_n 2, 1) := by decide +kernel
theorem dX2_worthOf_38 : decode cX2_worthOf 38 = .ok (.ireturn, 1) := by decide +kernel
theorem dX2_has_0 : decode cX2_has 0 = .ok (.iload_n 2, 1) := by decide +kernel
theorem dX2_has_1 : decode cX2_has 1 = .ok (.iconst 2, 1) := by decide +kernel
theorem dX2_has_2 : decode cX2_has 2 = .ok (.isub, 1) := by decide +kernel
theorem dX2_has_3 : decode cX2_has 3 = .ok (.istore 4, 2) := by decide +kernel
theorem dX2_has_5 : decode cX2_has 5 = .ok (.iload 4, 2) := by decide +kernel
theorem dX2_has_7 : decode cX2_has 7 = .ok (.ifCond .lt 24, 3) := by decide +kernel
theorem dX2_has_10 : decode cX2_has 10 = .ok (.iload 4, 2) := by decide +kernel
theorem dX2_has_12 : decode cX2_has 12 = .ok (.iconst 4, 1) := by decide +kernel
theorem dX2_has_13 : decode cX2_has 13 = .ok (.if_icmp .ge 18, 3) := by decide +kernel
theorem dX2_has_16 : decode cX2_has 16 = .ok (.aload_n 0, 1) := by decide +kernel
theorem dX2_has_17 : decode cX2_has 17 = .ok (.getfield 9, 3) := by decide +kernel
theorem dX2_has_20 : decode cX2_has 20 = .ok (.iload 4, 2) := by decide +kernel
theorem dX2_has_22 : decode cX2_has 22 = .ok (.iaload, 1) := by decide +kernel
theorem dX2_has_23 : decode cX2_has 23 = .ok (.iload_n 3, 1) := by decide +kernel
theorem dX2_has_24 : decode cX2_has 24 = .ok (.if_icmp .ne 7, 3) := by decide +kernel
theorem dX2_has_27 : decode cX2_has 27 = .ok (.iconst 1, 1) := by decide +kernel
theorem dX2_has_28 : decode cX2_has 28 = .ok (.goto 4, 3) := by decide +kernel
theorem dX2_has_31 : decode cX2_has 31 = .ok (.iconst 0, 1) := by decide +kernel
theorem dX2_has_32 : decode cX2_has 32 = .ok (.istore 5, 2) := by decide +kernel
theorem dX2_has_34 : decode cX2_has 34 = .ok (.iload 5, 2) := by decide +kernel
theorem dX2_has_36 : decode cX2_has 36 = .ok (.ifCond .eq 19, 3) := by decide +kernel
theorem dX2_has_39 : decode cX2_has 39 = .ok (.aload_n 0, 1) := by decide +kernel
theorem dX2_has_40 : decode cX2_has 40 = .ok (.aload_n 0, 1) := by decide +kernel
theorem dX2_has_41 : decode cX2_has 41 = .ok (.getfield 24, 3) := by decide +kernel
theorem dX2_has_44 : decode cX2_has 44 = .ok (.getfield 62, 3) := by decide +kernel
theorem dX2_has_47 : decode cX2_has 47 = .ok (.iload_n 1, 1) := by decide +kernel
theorem dX2_has_48 : decode cX2_has 48 = .ok (.iaload, 1) := by decide +kernel
theorem dX2_has_49 : decode cX2_has 49 = .ok (.invokevirtual 67, 3) := by decide +kernel
theorem dX2_has_52 : decode cX2_has 52 = .ok (.goto 4, 3) := by decide +kernel
theorem dX2_has_55 : decode cX2_has 55 = .ok (.iconst 0, 1) := by decide +kernel
theorem dX2_has_56 : decode cX2_has 56 = .ok (.ireturn, 1) := by decide +kernel
theorem dX2_heAndHeir_0 : decode cX2_heAndHeir 0 = .ok (.aload_n 0, 1) := by decide +kernel
theorem dX2_heAndHeir_1 : decode cX2_heAndHeir 1 = .ok (.iload_n 1, 1) := by decide +kernel
theorem dX2_heAndHeir_2 : decode cX2_heAndHeir 2 = .ok (.iload_n 2, 1) := by decide +kernel
theorem dX2_heAndHeir_3 : decode cX2_heAndHeir 3 = .ok (.iconst 0, 1) := by decide +kernel
theorem dX2_heAndHeir_4 : decode cX2_heAndHeir 4 = .ok (.invokevirtual 70, 3) := by decide +kernel
theorem dX2_heAndHeir_7 : decode cX2_heAndHeir 7 = .ok (.aload_n 0, 1) := by decide +kernel
theorem dX2_heAndHeir_8 : decode cX2_heAndHeir 8 = .ok (.iload_n 1, 1) := by decide +kernel
theorem dX2_heAndHeir_9 : decode cX2_heAndHeir 9 = .ok (.iload_n 2, 1) := by decide +kernel
theorem dX2_heAndHeir_10 : decode cX2_heAndHeir 10 = .ok (.iconst 2, 1) := by decide +kernel
theorem dX2_heAndHeir_11 : decode cX2_heAndHeir 11 = .ok (.invokevirtual 70, 3) := by decide +kernel
theorem dX2_heAndHeir_14 : decode cX2_heAndHeir 14 = .ok (.iadd, 1) := by decide +kernel
theorem dX2_heAndHeir_15 : decode cX2_heAndHeir 15 = .ok (.ireturn, 1) := by decide +kernel
theorem dX11_gains_0 : decode cX11_gains 0 = .ok (.aload_n 0, 1) := by decide +kernel
theorem dX11_gains_1 : decode cX11_gains 1 = .ok (.iload_n 1, 1) := by decide +kernel
theorem dX11_gains_2 : decode cX11_gains 2 = .ok (.invokevirtual 147, 3) := by decide +kernel
theorem dX11_gains_5 : decode cX11_gains 5 = .ok (.ifCond .eq 13, 3) := by decide +kernel
theorem dX11_gains_8 : decode cX11_gains 8 = .ok (.iload_n 2, 1) := by decide +kernel
theorem dX11_gains_9 : decode cX11_gains 9 = .ok (.ifCond .lt 9, 3) := by decide +kernel
theorem dX11_gains_12 : decode cX11_gains 12 = .ok (.iload_n 2, 1) := by decide +kernel
theorem dX11_gains_13 : decode cX11_gains 13 = .ok (.bipush 60, 2) := by decide +kernel
theorem dX11_gains_15 : decode cX11_gains 15 = .ok (.if_icmp .le 5, 3) := by decide +kernel
theorem dX11_gains_18 : decode cX11_gains 18 = .ok (.iconst (-1), 1) := by decide +kernel
theorem dX11_gains_19 : decode cX11_gains 19 = .ok (.ireturn, 1) := by decide +kernel
theorem dX11_gains_20 : decode cX11_gains 20 = .ok (.aload_n 0, 1) := by decide +kernel
theorem dX11_gains_21 : decode cX11_gains 21 = .ok (.getfield 65, 3) := by decide +kernel
theorem dX11_gains_24 : decode cX11_gains 24 = .ok (.iload_n 1, 1) := by decide +kernel
theorem dX11_gains_25 : decode cX11_gains 25 = .ok (.invokevirtual 261, 3) := by decide +kernel
theorem dX11_gains_28 : decode cX11_gains 28 = .ok (.ifCond .ne 6, 3) := by decide +kernel
theorem dX11_gains_31 : decode cX11_gains 31 = .ok (.bipush (-2), 2) := by decide +kernel
theorem dX11_gains_33 : decode cX11_gains 33 = .ok (.ireturn, 1) := by decide +kernel
theorem dX11_gains_34 : decode cX11_gains 34 = .ok (.aload_n 0, 1) := by decide +kernel
theorem dX11_gains_35 : decode cX11_gains 35 = .ok (.getfield 56, 3) := by decide +kernel
theorem dX11_gains_38 : decode cX11_gains 38 = .ok (.iload_n 1, 1) := by decide +kernel
theorem dX11_gains_39 : decode cX11_gains 39 = .ok (.aload_n 0, 1) := by decide +kernel
theorem dX11_gains_40 : decode cX11_gains 40 = .ok (.getfield 65, 3) := by decide +kernel
theorem dX11_gains_43 : decode cX11_gains 43 = .ok (.iload_n 1, 1) := by decide +kernel
theorem dX11_gains_44 : decode cX11_gains 44 = .ok (.iload_n 2, 1) := by decide +kernel
theorem dX11_gains_45 : decode cX11_gains 45 = .ok (.invokevirtual 306, 3) := by decide +kernel
theorem dX11_gains_48 : decode cX11_gains 48 = .ok (.invokevirtual 309, 3) := by decide +kernel
theorem dX11_gains_51 : decode cX11_gains 51 = .ok (.istore_n 3, 1) := by decide +kernel
theorem dX11_gains_52 : decode cX11_gains 52 = .ok (.aload_n 0, 1) := by decide +kernel
theorem dX11_gains_53 : decode cX11_gains 53 = .ok (.getfield 56, 3) := by decide +kernel
theorem dX11_gains_56 : decode cX11_gains 56 = .ok (.iload_n 1, 1) := by decide +kernel
theorem dX11_gains_57 : decode cX11_gains 57 = .ok (.iconst 5, 1) := by decide +kernel
theorem dX11_gains_58 : decode cX11_gains 58 = .ok (.invokevirtual 309, 3) := by decide +kernel
theorem dX11_gains_61 : decode cX11_gains 61 = .ok (.istore 4, 2) := by decide +kernel
theorem dX11_gains_63 : decode cX11_gains 63 = .ok (.aload_n 0, 1) := by decide +kernel
theorem dX11_gains_64 : decode cX11_gains 64 = .ok (.getfield 19, 3) := by decide +kernel
theorem dX11_gains_67 : decode cX11_gains 67 = .ok (.iload_n 3, 1) := by decide +kernel
theorem dX11_gains_68 : decode cX11_gains 68 = .ok (.i2l, 1) := by decide +kernel
theorem dX11_gains_69 : decode cX11_gains 69 = .ok (.iload 4, 2) := by decide +kernel
theorem dX11_gains_71 : decode cX11_gains 71 = .ok (.i2l, 1) := by decide +kernel
theorem dX11_gains_72 : decode cX11_gains 72 = .ok (.invokevirtual 244, 3) := by decide +kernel
theorem dX11_gains_75 : decode cX11_gains 75 = .ok (.sipush 1000, 3) := by decide +kernel
theorem dX11_gains_78 : decode cX11_gains 78 = .ok (.iload_n 3, 1) := by decide +kernel
theorem dX11_gains_79 : decode cX11_gains 79 = .ok (.iadd, 1) := by decide +kernel
theorem dX11_gains_80 : decode cX11_gains 80 = .ok (.iload 4, 2) := by decide +kernel
theorem dX11_gains_82 : decode cX11_gains 82 = .ok (.isub, 1) := by decide +kernel
theorem dX11_gains_83 : decode cX11_gains 83 = .ok (.ireturn, 1) := by decide +kernel
theorem dX12_whose_0 : decode cX12_whose 0 = .ok (.aload_n 0, 1) := by decide +kernel
theorem dX12_whose_1 : decode cX12_whose 1 = .ok (.getfield 38, 3) := by decide +kernel
theorem dX12_whose_4 : decode cX12_whose 4 = .ok (.iload_n 1, 1) := by decide +kernel
theorem dX12_whose_5 : decode cX12_whose 5 = .ok (.iconst 2, 1) := by decide +kernel
theorem dX12_whose_6 : decode cX12_whose 6 = .ok (.isub, 1) := by decide +kernel
theorem dX12_whose_7 : decode cX12_whose 7 = .ok (.iaload, 1) := by decide +kernel
theorem dX12_whose_8 : decode cX12_whose 8 = .ok (.ireturn, 1) := by decide +kernel
theorem dX12_theirs_0 : decode cX12_theirs 0 = .ok (.aload_n 0, 1) := by decide +kernel
theorem dX12_theirs_1 : decode cX12_theirs 1 = .ok (.iload_n 2, 1) := by decide +kernel
theorem dX12_theirs_2 : decode cX12_theirs 2 = .ok (.invokevirtual 304, 3) := by decide +kernel
theorem dX12_theirs_5 : decode cX12_theirs 5 = .ok (.iconst 1, 1) := by decide +kernel
theorem dX12_theirs_6 : decode cX12_theirs 6 = .ok (.if_icmp .ne 7, 3) := by decide +kernel
theorem dX12_theirs_9 : decode cX12_theirs 9 = .ok (.iconst 0, 1) := by decide +kernel
theorem dX12_theirs_10 : decode cX12_theirs 10 = .ok (.goto 13, 3) := by decide +kernel
theorem dX12_theirs_13 : decode cX12_theirs 13 = .ok (.aload_n 0, 1) := by decide +kernel
theorem dX12_theirs_14 : decode cX12_theirs 14 = .ok (.aload_n 0, 1) := by decide +kernel
theorem dX12_theirs_15 : decode cX12_theirs 15 = .ok (.getfield 26, 3) := by decide +kernel
theorem dX12_theirs_18 : decode cX12_theirs 18 = .ok (.iload_n 1, 1) := by decide +kernel
theorem dX12_theirs_19 : decode cX12_theirs 19 = .ok (.iaload, 1) := by decide +kernel
theorem dX12_theirs_20 : decode cX12_theirs 20 = .ok (.invokevirtual 239, 3) := by decide +kernel
theorem dX12_theirs_23 : decode cX12_theirs 23 = .ok (.ireturn, 1) := by decide +kernel
theorem dX12_gains_0 : decode cX12_gains 0 = .ok (.aload_n 0, 1) := by decide +kernel
theorem dX12_gains_1 : decode cX12_gains 1 = .ok (.iconst 0, 1) := by decide +kernel
theorem dX12_gains_2 : decode cX12_gains 2 = .ok (.putfield 95, 3) := by decide +kernel
theorem dX12_gains_5 : decode cX12_gains 5 = .ok (.aload_n 0, 1) := by decide +kernel
theorem dX12_gains_6 : decode cX12_gains 6 = .ok (.iload_n 1, 1) := by decide +kernel
theorem dX12_gains_7 : decode cX12_gains 7 = .ok (.invokevirtual 224, 3) := by decide +kernel
theorem dX12_gains_10 : decode cX12_gains 10 = .ok (.ifCond .eq 13, 3) := by decide +kernel
theorem dX12_gains_13 : decode cX12_gains 13 = .ok (.iload_n 2, 1) := by decide +kernel
theorem dX12_gains_14 : decode cX12_gains 14 = .ok (.iconst 0, 1) := by decide +kernel
theorem dX12_gains_15 : decode cX12_gains 15 = .ok (.bipush 60, 2) := by decide +kernel
theorem dX12_gains_17 : decode cX12_gains 17 = .ok (.invokestatic 104, 3) := by decide +kernel
theorem dX12_gains_20 : decode cX12_gains 20 = .ok (.ifCond .ne 5, 3) := by decide +kernel
theorem dX12_gains_23 : decode cX12_gains 23 = .ok (.iconst (-1), 1) := by decide +kernel
theorem dX12_gains_24 : decode cX12_gains 24 = .ok (.ireturn, 1) := by decide +kernel
theorem dX12_gains_25 : decode cX12_gains 25 = .ok (.aload_n 0, 1) := by decide +kernel
theorem dX12_gains_26 : decode cX12_gains 26 = .ok (.getfield 9, 3) := by decide +kernel
theorem dX12_gains_29 : decode cX12_gains 29 = .ok (.iload_n 1, 1) := by decide +kernel
theorem dX12_gains_30 : decode cX12_gains 30 = .ok (.iaload, 1) := by decide +kernel
theorem dX12_gains_31 : decode cX12_gains 31 = .ok (.ifCond .eq 6, 3) := by decide +kernel
theorem dX12_gains_34 : decode cX12_gains 34 = .ok (.bipush (-2), 2) := by decide +kernel
theorem dX12_gains_36 : decode cX12_gains 36 = .ok (.ireturn, 1) := by decide +kernel
theorem dX12_gains_37 : decode cX12_gains 37 = .ok (.aload_n 0, 1) := by decide +kernel
theorem dX12_gains_38 : decode cX12_gains 38 = .ok (.iload_n 1, 1) := by decide +kernel
theorem dX12_gains_39 : decode cX12_gains 39 = .ok (.aload_n 0, 1) := by decide +kernel
theorem dX12_gains_40 : decode cX12_gains 40 = .ok (.aload_n 0, 1) := by decide +kernel
theorem dX12_gains_41 : decode cX12_gains 41 = .ok (.aload_n 0, 1) := by decide +kernel
theorem dX12_gains_42 : decode cX12_gains 42 = .ok (.getfield 9, 3) := by decide +kernel
theorem dX12_gains_45 : decode cX12_gains 45 = .ok (.iload_n 1, 1) := by decide +kernel
theorem dX12_gains_46 : decode cX12_gains 46 = .ok (.iload_n 2, 1) := by decide +kernel
theorem dX12_gains_47 : decode cX12_gains 47 = .ok (.invokevirtual 235, 3) := by decide +kernel
theorem dX12_gains_50 : decode cX12_gains 50 = .ok (.invokevirtual 264, 3) := by decide +kernel
theorem dX12_gains_53 : decode cX12_gains 53 = .ok (.invokevirtual 307, 3) := by decide +kernel
theorem dX12_gains_56 : decode cX12_gains 56 = .ok (.istore_n 3, 1) := by decide +kernel
theorem dX12_gains_57 : decode cX12_gains 57 = .ok (.aload_n 0, 1) := by decide +kernel
theorem dX12_gains_58 : decode cX12_gains 58 = .ok (.iload_n 1, 1) := by decide +kernel
theorem dX12_gains_59 : decode cX12_gains 59 = .ok (.iconst 5, 1) := by decide +kernel
theorem dX12_gains_60 : decode cX12_gains 60 = .ok (.invokevirtual 307, 3) := by decide +kernel
theorem dX12_gains_63 : decode cX12_gains 63 = .ok (.istore 4, 2) := by decide +kernel
theorem dX12_gains_65 : decode cX12_gains 65 = .ok (.aload_n 0, 1) := by decide +kernel
theorem dX12_gains_66 : decode cX12_gains 66 = .ok (.iconst 0, 1) := by decide +kernel
theorem dX12_gains_67 : decode cX12_gains 67 = .ok (.putfield 98, 3) := by decide +kernel
theorem dX12_gains_70 : decode cX12_gains 70 = .ok (.aload_n 0, 1) := by decide +kernel
theorem dX12_gains_71 : decode cX12_gains 71 = .ok (.iload_n 3, 1) := by decide +kernel
theorem dX12_gains_72 : decode cX12_gains 72 = .ok (.i2l, 1) := by decide +kernel
theorem dX12_gains_73 : decode cX12_gains 73 = .ok (.invokevirtual 267, 3) := by decide +kernel
theorem dX12_gains_76 : decode cX12_gains 76 = .ok (.aload_n 0, 1) := by decide +kernel
theorem dX12_gains_77 : decode cX12_gains 77 = .ok (.iload 4, 2) := by decide +kernel
theorem dX12_gains_79 : decode cX12_gains 79 = .ok (.i2l, 1) := by decide +kernel
theorem dX12_gains_80 : decode cX12_gains 80 = .ok (.invokevirtual 267, 3) := by decide +kernel
theorem dX12_gains_83 : decode cX12_gains 83 = .ok (.sipush 1000, 3) := by decide +kernel
theorem dX12_gains_86 : decode cX12_gains 86 = .ok (.iload_n 3, 1) := by decide +kernel
theorem dX12_gains_87 : decode cX12_gains 87 = .ok (.iadd, 1) := by decide +kernel
theorem dX12_gains_88 : decode cX12_gains 88 = .ok (.iload 4, 2) := by decide +kernel
theorem dX12_gains_90 : decode cX12_gains 90 = .ok (.isub, 1) := by decide +kernel
theorem dX12_gains_91 : decode cX12_gains 91 = .ok (.ireturn, 1) := by decide +kernel
theorem dX4_lackIn_0 : decode cX4_lackIn 0 = .ok (.iconst 0, 1) := by decide +kernel
theorem dX4_lackIn_1 : decode cX4_lackIn 1 = .ok (.bipush 100, 2) := by decide +kernel
theorem dX4_lackIn_3 : decode cX4_lackIn 3 = .ok (.aload_n 0, 1) := by decide +kernel
theorem dX4_lackIn_4 : decode cX4_lackIn 4 = .ok (.iload_n 1, 1) := by decide +kernel
theorem dX4_lackIn_5 : decode cX4_lackIn 5 = .ok (.iload_n 2, 1) := by decide +kernel
theorem dX4_lackIn_6 : decode cX4_lackIn 6 = .ok (.invokevirtual 149, 3) := by decide +kernel
theorem dX4_lackIn_9 : decode cX4_lackIn 9 = .ok (.isub, 1) := by decide +kernel
theorem dX4_lackIn_10 : decode cX4_lackIn 10 = .ok (.invokestatic 72, 3) := by decide +kernel
theorem dX4_lackIn_13 : decode cX4_lackIn 13 = .ok (.ireturn, 1) := by decide +kernel
theorem dX11_lacks_0 : decode cX11_lacks 0 = .ok (.aload_n 0, 1) := by decide +kernel
theorem dX11_lacks_1 : decode cX11_lacks 1 = .ok (.iload_n 1, 1) := by decide +kernel
theorem dX11_lacks_2 : decode cX11_lacks 2 = .ok (.invokevirtual 147, 3) := by decide +kernel
theorem dX11_lacks_5 : decode cX11_lacks 5 = .ok (.ifCond .eq 13, 3) := by decide +kernel
theorem dX11_lacks_8 : decode cX11_lacks 8 = .ok (.iload_n 2, 1) := by decide +kernel
theorem dX11_lacks_9 : decode cX11_lacks 9 = .ok (.ifCond .lt 9, 3) := by decide +kernel
theorem dX11_lacks_12 : decode cX11_lacks 12 = .ok (.iload_n 2, 1) := by decide +kernel
theorem dX11_lacks_13 : decode cX11_lacks 13 = .ok (.bipush 99, 2) := by decide +kernel
theorem dX11_lacks_15 : decode cX11_lacks 15 = .ok (.if_icmp .le 5, 3) := by decide +kernel
theorem dX11_lacks_18 : decode cX11_lacks 18 = .ok (.iconst (-1), 1) := by decide +kernel
theorem dX11_lacks_19 : decode cX11_lacks 19 = .ok (.ireturn, 1) := by decide +kernel
theorem dX11_lacks_20 : decode cX11_lacks 20 = .ok (.aload_n 0, 1) := by decide +kernel
theorem dX11_lacks_21 : decode cX11_lacks 21 = .ok (.getfield 65, 3) := by decide +kernel
theorem dX11_lacks_24 : decode cX11_lacks 24 = .ok (.iload_n 1, 1) := by decide +kernel
theorem dX11_lacks_25 : decode cX11_lacks 25 = .ok (.iload_n 2, 1) := by decide +kernel
theorem dX11_lacks_26 : decode cX11_lacks 26 = .ok (.invokevirtual 312, 3) := by decide +kernel
theorem dX11_lacks_29 : decode cX11_lacks 29 = .ok (.istore_n 3, 1) := by decide +kernel
theorem dX11_lacks_30 : decode cX11_lacks 30 = .ok (.iconst 0, 1) := by decide +kernel
theorem dX11_lacks_31 : decode cX11_lacks 31 = .ok (.istore 4, 2) := by decide +kernel
theorem dX11_lacks_33 : decode cX11_lacks 33 = .ok (.iconst 0, 1) := by decide +kernel
theorem dX11_lacks_34 : decode cX11_lacks 34 = .ok (.istore 5, 2) := by decide +kernel
theorem dX11_lacks_36 : decode cX11_lacks 36 = .ok (.iload 5, 2) := by decide +kernel
theorem dX11_lacks_38 : decode cX11_lacks 38 = .ok (.aload_n 0, 1) := by decide +kernel
theorem dX11_lacks_39 : decode cX11_lacks 39 = .ok (.getfield 26, 3) := by decide +kernel
theorem dX11_lacks_42 : decode cX11_lacks 42 = .ok (.getfield 119, 3) := by decide +kernel
theorem dX11_lacks_45 : decode cX11_lacks 45 = .ok (.if_icmp .ge 40, 3) := by decide +kernel
theorem dX11_lacks_48 : decode cX11_lacks 48 = .ok (.aload_n 0, 1) := by decide +kernel
theorem dX11_lacks_49 : decode cX11_lacks 49 = .ok (.getfield 65, 3) := by decide +kernel
theorem dX11_lacks_52 : decode cX11_lacks 52 = .ok (.getfield 172, 3) := by decide +kernel
theorem dX11_lacks_55 : decode cX11_lacks 55 = .ok (.iload 5, 2) := by decide +kernel
theorem dX11_lacks_57 : decode cX11_lacks 57 = .ok (.iaload, 1) := by decide +kernel
theorem dX11_lacks_58 : decode cX11_lacks 58 = .ok (.iconst 2, 1) := by decide +kernel
theorem dX11_lacks_59 : decode cX11_lacks 59 = .ok (.if_icmp .eq 20, 3) := by decide +kernel
theorem dX11_lacks_62 : decode cX11_lacks 62 = .ok (.aload_n 0, 1) := by decide +kernel
theorem dX11_lacks_63 : decode cX11_lacks 63 = .ok (.getfield 65, 3) := by decide +kernel
theorem dX11_lacks_66 : decode cX11_lacks 66 = .ok (.iload 5, 2) := by decide +kernel
theorem dX11_lacks_68 : decode cX11_lacks 68 = .ok (.iload_n 2, 1) := by decide +kernel
theorem dX11_lacks_69 : decode cX11_lacks 69 = .ok (.invokevirtual 312, 3) := by decide +kernel
theorem dX11_lacks_72 : decode cX11_lacks 72 = .ok (.iload_n 3, 1) := by decide +kernel
theorem dX11_lacks_73 : decode cX11_lacks 73 = .ok (.if_icmp .le 6, 3) := by decide +kernel
theorem dX11_lacks_76 : decode cX11_lacks 76 = .ok (.iinc 4 1, 3) := by decide +kernel
theorem dX11_lacks_79 : decode cX11_lacks 79 = .ok (.iinc 5 1, 3) := by decide +kernel
theorem dX11_lacks_82 : decode cX11_lacks 82 = .ok (.goto (-46), 3) := by decide +kernel
theorem dX11_lacks_85 : decode cX11_lacks 85 = .ok (.aload_n 0, 1) := by decide +kernel
theorem dX11_lacks_86 : decode cX11_lacks 86 = .ok (.getfield 19, 3) := by decide +kernel
theorem dX11_lacks_89 : decode cX11_lacks 89 = .ok (.iload 4, 2) := by decide +kernel
theorem dX11_lacks_91 : decode cX11_lacks 91 = .ok (.i2l, 1) := by decide +kernel
theorem dX11_lacks_92 : decode cX11_lacks 92 = .ok (.invokevirtual 228, 3) := by decide +kernel
theorem dX11_lacks_95 : decode cX11_lacks 95 = .ok (.iload_n 3, 1) := by decide +kernel
theorem dX11_lacks_96 : decode cX11_lacks 96 = .ok (.ireturn, 1) := by decide +kernel
theorem dX12_lackOf_0 : decode cX12_lackOf 0 = .ok (.iconst 0, 1) := by decide +kernel
theorem dX12_lackOf_1 : decode cX12_lackOf 1 = .ok (.bipush 100, 2) := by decide +kernel
theorem dX12_lackOf_3 : decode cX12_lackOf 3 = .ok (.aload_n 0, 1) := by decide +kernel
theorem dX12_lackOf_4 : decode cX12_lackOf 4 = .ok (.aload_n 0, 1) := by decide +kernel
theorem dX12_lackOf_5 : decode cX12_lackOf 5 = .ok (.getfield 9, 3) := by decide +kernel
theorem dX12_lackOf_8 : decode cX12_lackOf 8 = .ok (.iload_n 1, 1) := by decide +kernel
theorem dX12_lackOf_9 : decode cX12_lackOf 9 = .ok (.iload_n 2, 1) := by decide +kernel
theorem dX12_lackOf_10 : decode cX12_lackOf 10 = .ok (.invokevirtual 235, 3) := by decide +kernel
theorem dX12_lackOf_13 : decode cX12_lackOf 13 = .ok (.isub, 1) := by decide +kernel
theorem dX12_lackOf_14 : decode cX12_lackOf 14 = .ok (.invokestatic 217, 3) := by decide +kernel
theorem dX12_lackOf_17 : decode cX12_lackOf 17 = .ok (.ireturn, 1) := by decide +kernel
theorem dX12_lacks_0 : decode cX12_lacks 0 = .ok (.aload_n 0, 1) := by decide +kernel
theorem dX12_lacks_1 : decode cX12_lacks 1 = .ok (.iconst 0, 1) := by decide +kernel
theorem dX12_lacks_2 : decode cX12_lacks 2 = .ok (.putfield 95, 3) := by decide +kernel
theorem dX12_lacks_5 : decode cX12_lacks 5 = .ok (.aload_n 0, 1) := by decide +kernel
theorem dX12_lacks_6 : decode cX12_lacks 6 = .ok (.iload_n 1, 1) := by decide +kernel
theorem dX12_lacks_7 : decode cX12_lacks 7 = .ok (.invokevirtual 224, 3) := by decide +kernel
theorem dX12_lacks_10 : decode cX12_lacks 10 = .ok (.ifCond .eq 13, 3) := by decide +kernel
theorem dX12_lacks_13 : decode cX12_lacks 13 = .ok (.iload_n 2, 1) := by decide +kernel
theorem dX12_lacks_14 : decode cX12_lacks 14 = .ok (.iconst 0, 1) := by decide +kernel
theorem dX12_lacks_15 : decode cX12_lacks 15 = .ok (.bipush 99, 2) := by decide +kernel
theorem dX12_lacks_17 : decode cX12_lacks 17 = .ok (.invokestatic 104, 3) := by decide +kernel
theorem dX12_lacks_20 : decode cX12_lacks 20 = .ok (.ifCond .ne 5, 3) := by decide +kernel
theorem dX12_lacks_23 : decode cX12_lacks 23 = .ok (.iconst (-1), 1) := by decide +kernel
theorem dX12_lacks_24 : decode cX12_lacks 24 = .ok (.ireturn, 1) := by decide +kernel
theorem dX12_lacks_25 : decode cX12_lacks 25 = .ok (.iconst 0, 1) := by decide +kernel
theorem dX12_lacks_26 : decode cX12_lacks 26 = .ok (.istore_n 3, 1) := by decide +kernel
theorem dX12_lacks_27 : decode cX12_lacks 27 = .ok (.iconst 0, 1) := by decide +kernel
theorem dX12_lacks_28 : decode cX12_lacks 28 = .ok (.istore 4, 2) := by decide +kernel
theorem dX12_lacks_30 : decode cX12_lacks 30 = .ok (.iload 4, 2) := by decide +kernel
theorem dX12_lacks_32 : decode cX12_lacks 32 = .ok (.aload_n 0, 1) := by decide +kernel
theorem dX12_lacks_33 : decode cX12_lacks 33 = .ok (.getfield 101, 3) := by decide +kernel
theorem dX12_lacks_36 : decode cX12_lacks 36 = .ok (.if_icmp .ge 50, 3) := by decide +kernel
theorem dX12_lacks_39 : decode cX12_lacks 39 = .ok (.iload_n 3, 1) := by decide +kernel
theorem dX12_lacks_40 : decode cX12_lacks 40 = .ok (.iload 4, 2) := by decide +kernel
theorem dX12_lacks_42 : decode cX12_lacks 42 = .ok (.iload_n 1, 1) := by decide +kernel
theorem dX12_lacks_43 : decode cX12_lacks 43 = .ok (.if_icmp .eq 34, 3) := by decide +kernel
theorem dX12_lacks_46 : decode cX12_lacks 46 = .ok (.aload_n 0, 1) := by decide +kernel
theorem dX12_lacks_47 : decode cX12_lacks 47 = .ok (.getfield 9, 3) := by decide +kernel
theorem dX12_lacks_50 : decode cX12_lacks 50 = .ok (.iload 4, 2) := by decide +kernel
theorem dX12_lacks_52 : decode cX12_lacks 52 = .ok (.iaload, 1) := by decide +kernel
theorem dX12_lacks_53 : decode cX12_lacks 53 = .ok (.iconst 2, 1) := by decide +kernel
theorem dX12_lacks_54 : decode cX12_lacks 54 = .ok (.if_icmp .eq 23, 3) := by decide +kernel
theorem dX12_lacks_57 : decode cX12_lacks 57 = .ok (.aload_n 0, 1) := by decide +kernel
theorem dX12_lacks_58 : decode cX12_lacks 58 = .ok (.iload 4, 2) := by decide +kernel
theorem dX12_lacks_60 : decode cX12_lacks 60 = .ok (.iload_n 2, 1) := by decide +kernel
theorem dX12_lacks_61 : decode cX12_lacks 61 = .ok (.invokevirtual 310, 3) := by decide +kernel
theorem dX12_lacks_64 : decode cX12_lacks 64 = .ok (.aload_n 0, 1) := by decide +kernel
theorem dX12_lacks_65 : decode cX12_lacks 65 = .ok (.iload_n 1, 1) := by decide +kernel
theorem dX12_lacks_66 : decode cX12_lacks 66 = .ok (.iload_n 2, 1) := by decide +kernel
theorem dX12_lacks_67 : decode cX12_lacks 67 = .ok (.invokevirtual 310, 3) := by decide +kernel
theorem dX12_lacks_70 : decode cX12_lacks 70 = .ok (.if_icmp .le 7, 3) := by decide +kernel
theorem dX12_lacks_73 : decode cX12_lacks 73 = .ok (.iconst 1, 1) := by decide +kernel
theorem dX12_lacks_74 : decode cX12_lacks 74 = .ok (.goto 4, 3) := by decide +kernel
theorem dX12_lacks_77 : decode cX12_lacks 77 = .ok (.iconst 0, 1) := by decide +kernel
theorem dX12_lacks_78 : decode cX12_lacks 78 = .ok (.iadd, 1) := by decide +kernel
theorem dX12_lacks_79 : decode cX12_lacks 79 = .ok (.istore_n 3, 1) := by decide +kernel
theorem dX12_lacks_80 : decode cX12_lacks 80 = .ok (.iinc 4 1, 3) := by decide +kernel
theorem dX12_lacks_83 : decode cX12_lacks 83 = .ok (.goto (-53), 3) := by decide +kernel
theorem dX12_lacks_86 : decode cX12_lacks 86 = .ok (.aload_n 0, 1) := by decide +kernel
theorem dX12_lacks_87 : decode cX12_lacks 87 = .ok (.iconst 0, 1) := by decide +kernel
theorem dX12_lacks_88 : decode cX12_lacks 88 = .ok (.putfield 98, 3) := by decide +kernel
theorem dX12_lacks_91 : decode cX12_lacks 91 = .ok (.aload_n 0, 1) := by decide +kernel
theorem dX12_lacks_92 : decode cX12_lacks 92 = .ok (.iload_n 3, 1) := by decide +kernel
theorem dX12_lacks_93 : decode cX12_lacks 93 = .ok (.i2l, 1) := by decide +kernel
theorem dX12_lacks_94 : decode cX12_lacks 94 = .ok (.invokevirtual 267, 3) := by decide +kernel
theorem dX12_lacks_97 : decode cX12_lacks 97 = .ok (.aload_n 0, 1) := by decide +kernel
theorem dX12_lacks_98 : decode cX12_lacks 98 = .ok (.iload_n 1, 1) := by decide +kernel
theorem dX12_lacks_99 : decode cX12_lacks 99 = .ok (.iload_n 2, 1) := by decide +kernel
theorem dX12_lacks_100 : decode cX12_lacks 100 = .ok (.invokevirtual 310, 3) := by decide +kernel
theorem dX12_lacks_103 : decode cX12_lacks 103 = .ok (.ireturn, 1) := by decide +kernel
theorem dX11_daysLeft_0 : decode cX11_daysLeft 0 = .ok (.aload_n 0, 1) := by decide +kernel
theorem dX11_daysLeft_1 : decode cX11_daysLeft 1 = .ok (.getfield 100, 3) := by decide +kernel
theorem dX11_daysLeft_4 : decode cX11_daysLeft 4 = .ok (.aload_n 0, 1) := by decide +kernel
theorem dX11_daysLeft_5 : decode cX11_daysLeft 5 = .ok (.getfield 65, 3) := by decide +kernel
theorem dX11_daysLeft_8 : decode cX11_daysLeft 8 = .ok (.getfield 206, 3) := by decide +kernel
theorem dX11_daysLeft_11 : decode cX11_daysLeft 11 = .ok (.if_icmp .le 18, 3) := by decide +kernel
theorem dX11_daysLeft_14 : decode cX11_daysLeft 14 = .ok (.aload_n 0, 1) := by decide +kernel
theorem dX11_daysLeft_15 : decode cX11_daysLeft 15 = .ok (.getfield 100, 3) := by decide +kernel
theorem dX11_daysLeft_18 : decode cX11_daysLeft 18 = .ok (.aload_n 0, 1) := by decide +kernel
theorem dX11_daysLeft_19 : decode cX11_daysLeft 19 = .ok (.getfield 65, 3) := by decide +kernel
theorem dX11_daysLeft_22 : decode cX11_daysLeft 22 = .ok (.getfield 206, 3) := by decide +kernel
theorem dX11_daysLeft_25 : decode cX11_daysLeft 25 = .ok (.isub, 1) := by decide +kernel
theorem dX11_daysLeft_26 : decode cX11_daysLeft 26 = .ok (.goto 6, 3) := by decide +kernel
theorem dX11_daysLeft_29 : decode cX11_daysLeft 29 = .ok (.sipush 1000, 3) := by decide +kernel
theorem dX11_daysLeft_32 : decode cX11_daysLeft 32 = .ok (.ireturn, 1) := by decide +kernel
theorem dX7_tell___0 : decode cX7_tell__ 0 = .ok (.aload_n 0, 1) := by decide +kernel
theorem dX7_tell___1 : decode cX7_tell__ 1 = .ok (.lload_n 1, 1) := by decide +kernel
theorem dX7_tell___2 : decode cX7_tell__ 2 = .ok (.lload_n 3, 1) := by decide +kernel
theorem dX7_tell___3 : decode cX7_tell__ 3 = .ok (.invokevirtual 27, 3) := by decide +kernel
theorem dX7_tell___6 : decode cX7_tell__ 6 = .ok (.aload_n 0, 1) := by decide +kernel
theorem dX7_tell___7 : decode cX7_tell__ 7 = .ok (.lload 5, 2) := by decide +kernel
theorem dX7_tell___9 : decode cX7_tell__ 9 = .ok (.invokevirtual 20, 3) := by decide +kernel
theorem dX7_tell___12 : decode cX7_tell__ 12 = .ok (.return_, 1) := by decide +kernel
theorem dX11_best_0 : decode cX11_best 0 = .ok (.aload_n 0, 1) := by decide +kernel
theorem dX11_best_1 : decode cX11_best 1 = .ok (.iload_n 1, 1) := by decide +kernel
theorem dX11_best_2 : decode cX11_best 2 = .ok (.invokevirtual 147, 3) := by decide +kernel
theorem dX11_best_5 : decode cX11_best 5 = .ok (.ifCond .ne 5, 3) := by decide +kernel
theorem dX11_best_8 : decode cX11_best 8 = .ok (.iconst (-1), 1) := by decide +kernel
theorem dX11_best_9 : decode cX11_best 9 = .ok (.ireturn, 1) := by decide +kernel
theorem dX11_best_10 : decode cX11_best 10 = .ok (.aload_n 0, 1) := by decide +kernel
theorem dX11_best_11 : decode cX11_best 11 = .ok (.getfield 65, 3) := by decide +kernel
theorem dX11_best_14 : decode cX11_best 14 = .ok (.iload_n 1, 1) := by decide +kernel
theorem dX11_best_15 : decode cX11_best 15 = .ok (.invokevirtual 261, 3) := by decide +kernel
theorem dX11_best_18 : decode cX11_best 18 = .ok (.ifCond .ne 6, 3) := by decide +kernel
theorem dX11_best_21 : decode cX11_best 21 = .ok (.bipush (-2), 2) := by decide +kernel
theorem dX11_best_23 : decode cX11_best 23 = .ok (.ireturn, 1) := by decide +kernel
theorem dX11_best_24 : decode cX11_best 24 = .ok (.iconst 0, 1) := by decide +kernel
theorem dX11_best_25 : decode cX11_best 25 = .ok (.istore_n 2, 1) := by decide +kernel
theorem dX11_best_26 : decode cX11_best 26 = .ok (.iconst (-1), 1) := by decide +kernel
theorem dX11_best_27 : decode cX11_best 27 = .ok (.istore_n 3, 1) := by decide +kernel
theorem dX11_best_28 : decode cX11_best 28 = .ok (.iconst 0, 1) := by decide +kernel
theorem dX11_best_29 : decode cX11_best 29 = .ok (.istore 4, 2) := by decide +kernel
theorem dX11_best_31 : decode cX11_best 31 = .ok (.iload 4, 2) := by decide +kernel
theorem dX11_best_33 : decode cX11_best 33 = .ok (.bipush 60, 2) := by decide +kernel
theorem dX11_best_35 : decode cX11_best 35 = .ok (.if_icmp .gt 50, 3) := by decide +kernel
theorem dX11_best_38 : decode cX11_best 38 = .ok (.iload 4, 2) := by decide +kernel
theorem dX11_best_40 : decode cX11_best 40 = .ok (.aload_n 0, 1) := by decide +kernel
theorem dX11_best_41 : decode cX11_best 41 = .ok (.invokevirtual 315, 3) := by decide +kernel
theorem dX11_best_44 : decode cX11_best 44 = .ok (.if_icmp .ge 41, 3) := by decide +kernel
theorem dX11_best_47 : decode cX11_best 47 = .ok (.aload_n 0, 1) := by decide +kernel
theorem dX11_best_48 : decode cX11_best 48 = .ok (.getfield 56, 3) := by decide +kernel
theorem dX11_best_51 : decode cX11_best 51 = .ok (.iload_n 1, 1) := by decide +kernel
theorem dX11_best_52 : decode cX11_best 52 = .ok (.aload_n 0, 1) := by decide +kernel
theorem dX11_best_53 : decode cX11_best 53 = .ok (.getfield 65, 3) := by decide +kernel
theorem dX11_best_56 : decode cX11_best 56 = .ok (.iload_n 1, 1) := by decide +kernel
theorem dX11_best_57 : decode cX11_best 57 = .ok (.iload 4, 2) := by decide +kernel
theorem dX11_best_59 : decode cX11_best 59 = .ok (.invokevirtual 306, 3) := by decide +kernel
theorem dX11_best_62 : decode cX11_best 62 = .ok (.invokevirtual 309, 3) := by decide +kernel
theorem dX11_best_65 : decode cX11_best 65 = .ok (.istore 5, 2) := by decide +kernel
theorem dX11_best_67 : decode cX11_best 67 = .ok (.iload 5, 2) := by decide +kernel
theorem dX11_best_69 : decode cX11_best 69 = .ok (.iload_n 3, 1) := by decide +kernel
theorem dX11_best_70 : decode cX11_best 70 = .ok (.if_icmp .le 9, 3) := by decide +kernel
theorem dX11_best_73 : decode cX11_best 73 = .ok (.iload 4, 2) := by decide +kernel
theorem dX11_best_75 : decode cX11_best 75 = .ok (.istore_n 2, 1) := by decide +kernel
theorem dX11_best_76 : decode cX11_best 76 = .ok (.iload 5, 2) := by decide +kernel
theorem dX11_best_78 : decode cX11_best 78 = .ok (.istore_n 3, 1) := by decide +kernel
theorem dX11_best_79 : decode cX11_best 79 = .ok (.iinc 4 1, 3) := by decide +kernel
theorem dX11_best_82 : decode cX11_best 82 = .ok (.goto (-51), 3) := by decide +kernel
theorem dX11_best_85 : decode cX11_best 85 = .ok (.aload_n 0, 1) := by decide +kernel
theorem dX11_best_86 : decode cX11_best 86 = .ok (.getfield 19, 3) := by decide +kernel
theorem dX11_best_89 : decode cX11_best 89 = .ok (.iload_n 3, 1) := by decide +kernel
theorem dX11_best_90 : decode cX11_best 90 = .ok (.i2l, 1) := by decide +kernel
theorem dX11_best_91 : decode cX11_best 91 = .ok (.aload_n 0, 1) := by decide +kernel
theorem dX11_best_92 : decode cX11_best 92 = .ok (.getfield 56, 3) := by decide +kernel
theorem dX11_best_95 : decode cX11_best 95 = .ok (.iload_n 1, 1) := by decide +kernel
theorem dX11_best_96 : decode cX11_best 96 = .ok (.iconst 5, 1) := by decide +kernel
theorem dX11_best_97 : decode cX11_best 97 = .ok (.invokevirtual 309, 3) := by decide +kernel
theorem dX11_best_100 : decode cX11_best 100 = .ok (.i2l, 1) := by decide +kernel
theorem dX11_best_101 : decode cX11_best 101 = .ok (.aload_n 0, 1) := by decide +kernel
theorem dX11_best_102 : decode cX11_best 102 = .ok (.getfield 56, 3) := by decide +kernel
theorem dX11_best_105 : decode cX11_best 105 = .ok (.iload_n 1, 1) := by decide +kernel
theorem dX11_best_106 : decode cX11_best 106 = .ok (.iconst 2, 1) := by decide +kernel
theorem dX11_best_107 : decode cX11_best 107 = .ok (.invokevirtual 309, 3) := by decide +kernel
theorem dX11_best_110 : decode cX11_best 110 = .ok (.i2l, 1) := by decide +kernel
theorem dX11_best_111 : decode cX11_best 111 = .ok (.invokevirtual 319, 3) := by decide +kernel
theorem dX11_best_114 : decode cX11_best 114 = .ok (.iload_n 2, 1) := by decide +kernel
theorem dX11_best_115 : decode cX11_best 115 = .ok (.ireturn, 1) := by decide +kernel
theorem dX12_isAhead_0 : decode cX12_isAhead 0 = .ok (.aload_n 0, 1) := by decide +kernel
theorem dX12_isAhead_1 : decode cX12_isAhead 1 = .ok (.getfield 41, 3) := by decide +kernel
theorem dX12_isAhead_4 : decode cX12_isAhead 4 = .ok (.aload_n 0, 1) := by decide +kernel
theorem dX12_isAhead_5 : decode cX12_isAhead 5 = .ok (.getfield 9, 3) := by decide +kernel
theorem dX12_isAhead_8 : decode cX12_isAhead 8 = .ok (.bipush 26, 2) := by decide +kernel
theorem dX12_isAhead_10 : decode cX12_isAhead 10 = .ok (.iaload, 1) := by decide +kernel
theorem dX12_isAhead_11 : decode cX12_isAhead 11 = .ok (.if_icmp .le 19, 3) := by decide +kernel
theorem dX12_isAhead_14 : decode cX12_isAhead 14 = .ok (.aload_n 0, 1) := by decide +kernel
theorem dX12_isAhead_15 : decode cX12_isAhead 15 = .ok (.getfield 9, 3) := by decide +kernel
theorem dX12_isAhead_18 : decode cX12_isAhead 18 = .ok (.bipush 26, 2) := by decide +kernel
theorem dX12_isAhead_20 : decode cX12_isAhead 20 = .ok (.iaload, 1) := by decide +kernel
theorem dX12_isAhead_21 : decode cX12_isAhead 21 = .ok (.iload_n 1, 1) := by decide +kernel
theorem dX12_isAhead_22 : decode cX12_isAhead 22 = .ok (.iadd, 1) := by decide +kernel
theorem dX12_isAhead_23 : decode cX12_isAhead 23 = .ok (.aload_n 0, 1) := by decide +kernel
theorem dX12_isAhead_24 : decode cX12_isAhead 24 = .ok (.getfield 41, 3) := by decide +kernel
theorem dX12_isAhead_27 : decode cX12_isAhead 27 = .ok (.if_icmp .ge 7, 3) := by decide +kernel
theorem dX12_isAhead_30 : decode cX12_isAhead 30 = .ok (.iconst 1, 1) := by decide +kernel
theorem dX12_isAhead_31 : decode cX12_isAhead 31 = .ok (.goto 4, 3) := by decide +kernel
theorem dX12_isAhead_34 : decode cX12_isAhead 34 = .ok (.iconst 0, 1) := by decide +kernel
theorem dX12_isAhead_35 : decode cX12_isAhead 35 = .ok (.ireturn, 1) := by decide +kernel
theorem dX12_best_0 : decode cX12_best 0 = .ok (.aload_n 0, 1) := by decide +kernel
theorem dX12_best_1 : decode cX12_best 1 = .ok (.iconst 0, 1) := by decide +kernel
theorem dX12_best_2 : decode cX12_best 2 = .ok (.putfield 95, 3) := by decide +kernel
theorem dX12_best_5 : decode cX12_best 5 = .ok (.aload_n 0, 1) := by decide +kernel
theorem dX12_best_6 : decode cX12_best 6 = .ok (.iload_n 1, 1) := by decide +kernel
theorem dX12_best_7 : decode cX12_best 7 = .ok (.invokevirtual 224, 3) := by decide +kernel
theorem dX12_best_10 : decode cX12_best 10 = .ok (.ifCond .ne 5, 3) := by decide +kernel
theorem dX12_best_13 : decode cX12_best 13 = .ok (.iconst (-1), 1) := by decide +kernel
theorem dX12_best_14 : decode cX12_best 14 = .ok (.ireturn, 1) := by decide +kernel
theorem dX12_best_15 : decode cX12_best 15 = .ok (.aload_n 0, 1) := by decide +kernel
theorem dX12_best_16 : decode cX12_best 16 = .ok (.getfield 9, 3) := by decide +kernel
theorem dX12_best_19 : decode cX12_best 19 = .ok (.iload_n 1, 1) := by decide +kernel
theorem dX12_best_20 : decode cX12_best 20 = .ok (.iaload, 1) := by decide +kernel
theorem dX12_best_21 : decode cX12_best 21 = .ok (.ifCond .eq 6, 3) := by decide +kernel
theorem dX12_best_24 : decode cX12_best 24 = .ok (.bipush (-2), 2) := by decide +kernel
theorem dX12_best_26 : decode cX12_best 26 = .ok (.ireturn, 1) := by decide +kernel
theorem dX12_best_27 : decode cX12_best 27 = .ok (.iconst 0, 1) := by decide +kernel
theorem dX12_best_28 : decode cX12_best 28 = .ok (.istore_n 2, 1) := by decide +kernel
theorem dX12_best_29 : decode cX12_best 29 = .ok (.iconst (-1), 1) := by decide +kernel
theorem dX12_best_30 : decode cX12_best 30 = .ok (.istore_n 3, 1) := by decide +kernel
theorem dX12_best_31 : decode cX12_best 31 = .ok (.iconst 0, 1) := by decide +kernel
theorem dX12_best_32 : decode cX12_best 32 = .ok (.istore 4, 2) := by decide +kernel
theorem dX12_best_34 : decode cX12_best 34 = .ok (.iload 4, 2) := by decide +kernel
theorem dX12_best_36 : decode cX12_best 36 = .ok (.bipush 60, 2) := by decide +kernel
theorem dX12_best_38 : decode cX12_best 38 = .ok (.if_icmp .gt 55, 3) := by decide +kernel
theorem dX12_best_41 : decode cX12_best 41 = .ok (.aload_n 0, 1) := by decide +kernel
theorem dX12_best_42 : decode cX12_best 42 = .ok (.iload_n 1, 1) := by decide +kernel
theorem dX12_best_43 : decode cX12_best 43 = .ok (.aload_n 0, 1) := by decide +kernel
theorem dX12_best_44 : decode cX12_best 44 = .ok (.aload_n 0, 1) := by decide +kernel
theorem dX12_best_45 : decode cX12_best 45 = .ok (.aload_n 0, 1) := by decide +kernel
theorem dX12_best_46 : decode cX12_best 46 = .ok (.getfield 9, 3) := by decide +kernel
theorem dX12_best_49 : decode cX12_best 49 = .ok (.iload_n 1, 1) := by decide +kernel
theorem dX12_best_50 : decode cX12_best 50 = .ok (.iload 4, 2) := by decide +kernel
theorem dX12_best_52 : decode cX12_best 52 = .ok (.invokevirtual 235, 3) := by decide +kernel
theorem dX12_best_55 : decode cX12_best 55 = .ok (.invokevirtual 264, 3) := by decide +kernel
theorem dX12_best_58 : decode cX12_best 58 = .ok (.invokevirtual 307, 3) := by decide +kernel
theorem dX12_best_61 : decode cX12_best 61 = .ok (.istore 5, 2) := by decide +kernel
theorem dX12_best_63 : decode cX12_best 63 = .ok (.aload_n 0, 1) := by decide +kernel
theorem dX12_best_64 : decode cX12_best 64 = .ok (.iload 4, 2) := by decide +kernel
theorem dX12_best_66 : decode cX12_best 66 = .ok (.invokevirtual 313, 3) := by decide +kernel
theorem dX12_best_69 : decode cX12_best 69 = .ok (.ifCond .eq 18, 3) := by decide +kernel
theorem dX12_best_72 : decode cX12_best 72 = .ok (.iload 5, 2) := by decide +kernel
theorem dX12_best_74 : decode cX12_best 74 = .ok (.iload_n 3, 1) := by decide +kernel
theorem dX12_best_75 : decode cX12_best 75 = .ok (.if_icmp .gt 6, 3) := by decide +kernel
theorem dX12_best_78 : decode cX12_best 78 = .ok (.goto 9, 3) := by decide +kernel
theorem dX12_best_81 : decode cX12_best 81 = .ok (.iload 4, 2) := by decide +kernel
theorem dX12_best_83 : decode cX12_best 83 = .ok (.istore_n 2, 1) := by decide +kernel
theorem dX12_best_84 : decode cX12_best 84 = .ok (.iload 5, 2) := by decide +kernel
theorem dX12_best_86 : decode cX12_best 86 = .ok (.istore_n 3, 1) := by decide +kernel
theorem dX12_best_87 : decode cX12_best 87 = .ok (.iinc 4 1, 3) := by decide +kernel
theorem dX12_best_90 : decode cX12_best 90 = .ok (.goto (-56), 3) := by decide +kernel
theorem dX12_best_93 : decode cX12_best 93 = .ok (.aload_n 0, 1) := by decide +kernel
theorem dX12_best_94 : decode cX12_best 94 = .ok (.iconst 0, 1) := by decide +kernel
theorem dX12_best_95 : decode cX12_best 95 = .ok (.putfield 98, 3) := by decide +kernel
theorem dX12_best_98 : decode cX12_best 98 = .ok (.aload_n 0, 1) := by decide +kernel
theorem dX12_best_99 : decode cX12_best 99 = .ok (.iload_n 3, 1) := by decide +kernel
theorem dX12_best_100 : decode cX12_best 100 = .ok (.i2l, 1) := by decide +kernel
theorem dX12_best_101 : decode cX12_best 101 = .ok (.invokevirtual 267, 3) := by decide +kernel
theorem dX12_best_104 : decode cX12_best 104 = .ok (.aload_n 0, 1) := by decide +kernel
theorem dX12_best_105 : decode cX12_best 105 = .ok (.aload_n 0, 1) := by decide +kernel
theorem dX12_best_106 : decode cX12_best 106 = .ok (.iload_n 1, 1) := by decide +kernel
theorem dX12_best_107 : decode cX12_best 107 = .ok (.iconst 5, 1) := by decide +kernel
theorem dX12_best_108 : decode cX12_best 108 = .ok (.invokevirtual 307, 3) := by decide +kernel
theorem dX12_best_111 : decode cX12_best 111 = .ok (.i2l, 1) := by decide +kernel
theorem dX12_best_112 : decode cX12_best 112 = .ok (.invokevirtual 267, 3) := by decide +kernel
theorem dX12_best_115 : decode cX12_best 115 = .ok (.aload_n 0, 1) := by decide +kernel
theorem dX12_best_116 : decode cX12_best 116 = .ok (.aload_n 0, 1) := by decide +kernel
theorem dX12_best_117 : decode cX12_best 117 = .ok (.iload_n 1, 1) := by decide +kernel
theorem dX12_best_118 : decode cX12_best 118 = .ok (.iconst 2, 1) := by decide +kernel
theorem dX12_best_119 : decode cX12_best 119 = .ok (.invokevirtual 307, 3) := by decide +kernel
theorem dX12_best_122 : decode cX12_best 122 = .ok (.i2l, 1) := by decide +kernel
theorem dX12_best_123 : decode cX12_best 123 = .ok (.invokevirtual 267, 3) := by decide +kernel
theorem dX12_best_126 : decode cX12_best 126 = .ok (.iload_n 2, 1) := by decide +kernel
theorem dX12_best_127 : decode cX12_best 127 = .ok (.ireturn, 1) := by decide +kernel
theorem dX10_gainOf_0 : decode cX10_gainOf 0 = .ok (.aload_n 0, 1) := by decide +kernel
theorem dX10_gainOf_1 : decode cX10_gainOf 1 = .ok (.getfield 28, 3) := by decide +kernel
theorem dX10_gainOf_4 : decode cX10_gainOf 4 = .ok (.ifCond .ne 5, 3) := by decide +kernel
theorem dX10_gainOf_7 : decode cX10_gainOf 7 = .ok (.iconst 1, 1) := by decide +kernel
theorem dX10_gainOf_8 : decode cX10_gainOf 8 = .ok (.ireturn, 1) := by decide +kernel
theorem dX10_gainOf_9 : decode cX10_gainOf 9 = .ok (.aload_n 0, 1) := by decide +kernel
theorem dX10_gainOf_10 : decode cX10_gainOf 10 = .ok (.getfield 36, 3) := by decide +kernel
theorem dX10_gainOf_13 : decode cX10_gainOf 13 = .ok (.iload_n 1, 1) := by decide +kernel
theorem dX10_gainOf_14 : decode cX10_gainOf 14 = .ok (.iload_n 2, 1) := by decide +kernel
theorem dX10_gainOf_15 : decode cX10_gainOf 15 = .ok (.iconst 1, 1) := by decide +kernel
theorem dX10_gainOf_16 : decode cX10_gainOf 16 = .ok (.invokevirtual 48, 3) := by decide +kernel
theorem dX10_gainOf_19 : decode cX10_gainOf 19 = .ok (.aload_n 0, 1) := by decide +kernel
theorem dX10_gainOf_20 : decode cX10_gainOf 20 = .ok (.getfield 36, 3) := by decide +kernel
theorem dX10_gainOf_23 : decode cX10_gainOf 23 = .ok (.iload_n 1, 1) := by decide +kernel
theorem dX10_gainOf_24 : decode cX10_gainOf 24 = .ok (.iconst 5, 1) := by decide +kernel
theorem dX10_gainOf_25 : decode cX10_gainOf 25 = .ok (.iconst 1, 1) := by decide +kernel
theorem dX10_gainOf_26 : decode cX10_gainOf 26 = .ok (.invokevirtual 48, 3) := by decide +kernel
theorem dX10_gainOf_29 : decode cX10_gainOf 29 = .ok (.isub, 1) := by decide +kernel
theorem dX10_gainOf_30 : decode cX10_gainOf 30 = .ok (.ireturn, 1) := by decide +kernel
theorem dX10_isPleaded_0 : decode cX10_isPleaded 0 = .ok (.aload_n 0, 1) := by decide +kernel
theorem dX10_isPleaded_1 : decode cX10_isPleaded 1 = .ok (.getfield 32, 3) := by decide +kernel
theorem dX10_isPleaded_4 : decode cX10_isPleaded 4 = .ok (.getfield 64, 3) := by decide +kernel
theorem dX10_isPleaded_7 : decode cX10_isPleaded 7 = .ok (.iload_n 1, 1) := by decide +kernel
theorem dX10_isPleaded_8 : decode cX10_isPleaded 8 = .ok (.iaload, 1) := by decide +kernel
theorem dX10_isPleaded_9 : decode cX10_isPleaded 9 = .ok (.iconst 1, 1) := by decide +kernel
theorem dX10_isPleaded_10 : decode cX10_isPleaded 10 = .ok (.if_icmp .ne 7, 3) := by decide +kernel
theorem dX10_isPleaded_13 : decode cX10_isPleaded 13 = .ok (.iconst 1, 1) := by decide +kernel
theorem dX10_isPleaded_14 : decode cX10_isPleaded 14 = .ok (.goto 4, 3) := by decide +kernel
theorem dX10_isPleaded_17 : decode cX10_isPleaded 17 = .ok (.iconst 0, 1) := by decide +kernel
theorem dX10_isPleaded_18 : decode cX10_isPleaded 18 = .ok (.ireturn, 1) := by decide +kernel
theorem dX10_goOn_0 : decode cX10_goOn 0 = .ok (.iload_n 3, 1) := by decide +kernel
theorem dX10_goOn_1 : decode cX10_goOn 1 = .ok (.aload_n 0, 1) := by decide +kernel
theorem dX10_goOn_2 : decode cX10_goOn 2 = .ok (.getfield 19, 3) := by decide +kernel
theorem dX10_goOn_5 : decode cX10_goOn 5 = .ok (.if_icmp .gt 19, 3) := by decide +kernel
theorem dX10_goOn_8 : decode cX10_goOn 8 = .ok (.iload_n 3, 1) := by decide +kernel
theorem dX10_goOn_9 : decode cX10_goOn 9 = .ok (.aload_n 0, 1) := by decide +kernel
theorem dX10_goOn_10 : decode cX10_goOn 10 = .ok (.getfield 19, 3) := by decide +kernel
theorem dX10_goOn_13 : decode cX10_goOn 13 = .ok (.if_icmp .ne 35, 3) := by decide +kernel
theorem dX10_goOn_16 : decode cX10_goOn 16 = .ok (.iload_n 1, 1) := by decide +kernel
theorem dX10_goOn_17 : decode cX10_goOn 17 = .ok (.aload_n 0, 1) := by decide +kernel
theorem dX10_goOn_18 : decode cX10_goOn 18 = .ok (.getfield 15, 3) := by decide +kernel
theorem dX10_goOn_21 : decode cX10_goOn 21 = .ok (.if_icmp .ge 27, 3) := by decide +kernel
theorem dX10_goOn_24 : decode cX10_goOn 24 = .ok (.aload_n 0, 1) := by decide +kernel
theorem dX10_goOn_25 : decode cX10_goOn 25 = .ok (.getfield 22, 3) := by decide +kernel
theorem dX10_goOn_28 : decode cX10_goOn 28 = .ok (.iconst 0, 1) := by decide +kernel
theorem dX10_goOn_29 : decode cX10_goOn 29 = .ok (.aload_n 0, 1) := by decide +kernel
theorem dX10_goOn_30 : decode cX10_goOn 30 = .ok (.getfield 9, 3) := by decide +kernel
theorem dX10_goOn_33 : decode cX10_goOn 33 = .ok (.iconst 0, 1) := by decide +kernel
theorem dX10_goOn_34 : decode cX10_goOn 34 = .ok (.iload_n 1, 1) := by decide +kernel
theorem dX10_goOn_35 : decode cX10_goOn 35 = .ok (.invokestatic 69, 3) := by decide +kernel
theorem dX10_goOn_38 : decode cX10_goOn 38 = .ok (.aload_n 0, 1) := by decide +kernel
theorem dX10_goOn_39 : decode cX10_goOn 39 = .ok (.iload_n 1, 1) := by decide +kernel
theorem dX10_goOn_40 : decode cX10_goOn 40 = .ok (.putfield 15, 3) := by decide +kernel
theorem dX10_goOn_43 : decode cX10_goOn 43 = .ok (.aload_n 0, 1) := by decide +kernel
theorem dX10_goOn_44 : decode cX10_goOn 44 = .ok (.iload_n 3, 1) := by decide +kernel
theorem dX10_goOn_45 : decode cX10_goOn 45 = .ok (.putfield 19, 3) := by decide +kernel
theorem dX10_goOn_48 : decode cX10_goOn 48 = .ok (.iload_n 1, 1) := by decide +kernel
theorem dX10_goOn_49 : decode cX10_goOn 49 = .ok (.aload_n 0, 1) := by decide +kernel
theorem dX10_goOn_50 : decode cX10_goOn 50 = .ok (.getfield 25, 3) := by decide +kernel
theorem dX10_goOn_53 : decode cX10_goOn 53 = .ok (.if_icmp .ge 9, 3) := by decide +kernel
theorem dX10_goOn_56 : decode cX10_goOn 56 = .ok (.iload_n 1, 1) := by decide +kernel
theorem dX10_goOn_57 : decode cX10_goOn 57 = .ok (.bipush 6, 2) := by decide +kernel
theorem dX10_goOn_59 : decode cX10_goOn 59 = .ok (.if_icmp .lt 4, 3) := by decide +kernel
theorem dX10_goOn_62 : decode cX10_goOn 62 = .ok (.return_, 1) := by decide +kernel
theorem dX10_goOn_63 : decode cX10_goOn 63 = .ok (.iconst 0, 1) := by decide +kernel
theorem dX10_goOn_64 : decode cX10_goOn 64 = .ok (.istore 4, 2) := by decide +kernel
theorem dX10_goOn_66 : decode cX10_goOn 66 = .ok (.iload 4, 2) := by decide +kernel
theorem dX10_goOn_68 : decode cX10_goOn 68 = .ok (.bipush 6, 2) := by decide +kernel
theorem dX10_goOn_70 : decode cX10_goOn 70 = .ok (.if_icmp .ge 104, 3) := by decide +kernel
theorem dX10_goOn_73 : decode cX10_goOn 73 = .ok (.aload_n 0, 1) := by decide +kernel
theorem dX10_goOn_74 : decode cX10_goOn 74 = .ok (.iload 4, 2) := by decide +kernel
theorem dX10_goOn_76 : decode cX10_goOn 76 = .ok (.invokevirtual 44, 3) := by decide +kernel
theorem dX10_goOn_79 : decode cX10_goOn 79 = .ok (.ifCond .eq 16, 3) := by decide +kernel
theorem dX10_goOn_82 : decode cX10_goOn 82 = .ok (.iload_n 2, 1) := by decide +kernel
theorem dX10_goOn_83 : decode cX10_goOn 83 = .ok (.iload 4, 2) := by decide +kernel
theorem dX10_goOn_85 : decode cX10_goOn 85 = .ok (.ishr, 1) := by decide +kernel
theorem dX10_goOn_86 : decode cX10_goOn 86 = .ok (.iconst 1, 1) := by decide +kernel
theorem dX10_goOn_87 : decode cX10_goOn 87 = .ok (.iand, 1) := by decide +kernel
theorem dX10_goOn_88 : decode cX10_goOn 88 = .ok (.ifCond .ne 7, 3) := by decide +kernel
theorem dX10_goOn_91 : decode cX10_goOn 91 = .ok (.iconst 1, 1) := by decide +kernel
theorem dX10_goOn_92 : decode cX10_goOn 92 = .ok (.goto 4, 3) := by decide +kernel
theorem dX10_goOn_95 : decode cX10_goOn 95 = .ok (.iconst 0, 1) := by decide +kernel
theorem dX10_goOn_96 : decode cX10_goOn 96 = .ok (.istore 5, 2) := by decide +kernel
theorem dX10_goOn_98 : decode cX10_goOn 98 = .ok (.iload 5, 2) := by decide +kernel
theorem dX10_goOn_100 : decode cX10_goOn 100 = .ok (.ifCond .eq 16, 3) := by decide +kernel
theorem dX10_goOn_103 : decode cX10_goOn 103 = .ok (.aload_n 0, 1) := by decide +kernel
theorem dX10_goOn_104 : decode cX10_goOn 104 = .ok (.getfield 32, 3) := by decide +kernel
theorem dX10_goOn_107 : decode cX10_goOn 107 = .ok (.iload 4, 2) := by decide +kernel
theorem dX10_goOn_109 : decode cX10_goOn 109 = .ok (.iload_n 1, 1) := by decide +kernel
theorem dX10_goOn_110 : decode cX10_goOn 110 = .ok (.invokevirtual 75, 3) := by decide +kernel
theorem dX10_goOn_113 : decode cX10_goOn 113 = .ok (.goto 4, 3) := by decide +kernel
theorem dX10_goOn_116 : decode cX10_goOn 116 = .ok (.iconst 3, 1) := by decide +kernel
theorem dX10_goOn_117 : decode cX10_goOn 117 = .ok (.istore 6, 2) := by decide +kernel
theorem dX10_goOn_119 : decode cX10_goOn 119 = .ok (.iload 5, 2) := by decide +kernel
theorem dX10_goOn_121 : decode cX10_goOn 121 = .ok (.ifCond .eq 47, 3) := by decide +kernel
theorem dX10_goOn_124 : decode cX10_goOn 124 = .ok (.aload_n 0, 1) := by decide +kernel
theorem dX10_goOn_125 : decode cX10_goOn 125 = .ok (.getfield 28, 3) := by decide +kernel
theorem dX10_goOn_128 : decode cX10_goOn 128 = .ok (.ifCond .ne 9, 3) := by decide +kernel
theorem dX10_goOn_131 : decode cX10_goOn 131 = .ok (.iload 6, 2) := by decide +kernel
theorem dX10_goOn_133 : decode cX10_goOn 133 = .ok (.iconst 4, 1) := by decide +kernel
theorem dX10_goOn_134 : decode cX10_goOn 134 = .ok (.if_icmp .ne 34, 3) := by decide +kernel
theorem dX10_goOn_137 : decode cX10_goOn 137 = .ok (.aload_n 0, 1) := by decide +kernel
theorem dX10_goOn_138 : decode cX10_goOn 138 = .ok (.getfield 22, 3) := by decide +kernel
theorem dX10_goOn_141 : decode cX10_goOn 141 = .ok (.iload_n 1, 1) := by decide +kernel
theorem dX10_goOn_142 : decode cX10_goOn 142 = .ok (.iload 4, 2) := by decide +kernel
theorem dX10_goOn_144 : decode cX10_goOn 144 = .ok (.iastore, 1) := by decide +kernel
theorem dX10_goOn_145 : decode cX10_goOn 145 = .ok (.aload_n 0, 1) := by decide +kernel
theorem dX10_goOn_146 : decode cX10_goOn 146 = .ok (.iload_n 1, 1) := by decide +kernel
theorem dX10_goOn_147 : decode cX10_goOn 147 = .ok (.iconst 1, 1) := by decide +kernel
theorem dX10_goOn_148 : decode cX10_goOn 148 = .ok (.iadd, 1) := by decide +kernel
theorem dX10_goOn_149 : decode cX10_goOn 149 = .ok (.iload_n 2, 1) := by decide +kernel
theorem dX10_goOn_150 : decode cX10_goOn 150 = .ok (.iconst 1, 1) := by decide +kernel
theorem dX10_goOn_151 : decode cX10_goOn 151 = .ok (.iload 4, 2) := by decide +kernel
theorem dX10_goOn_153 : decode cX10_goOn 153 = .ok (.ishl, 1) := by decide +kernel
theorem dX10_goOn_154 : decode cX10_goOn 154 = .ok (.ior, 1) := by decide +kernel
theorem dX10_goOn_155 : decode cX10_goOn 155 = .ok (.iload_n 3, 1) := by decide +kernel
theorem dX10_goOn_156 : decode cX10_goOn 156 = .ok (.aload_n 0, 1) := by decide +kernel
theorem dX10_goOn_157 : decode cX10_goOn 157 = .ok (.iload 4, 2) := by decide +kernel
theorem dX10_goOn_159 : decode cX10_goOn 159 = .ok (.iload 6, 2) := by decide +kernel
theorem dX10_goOn_161 : decode cX10_goOn 161 = .ok (.invokevirtual 78, 3) := by decide +kernel
theorem dX10_goOn_164 : decode cX10_goOn 164 = .ok (.iadd, 1) := by decide +kernel
theorem dX10_goOn_165 : decode cX10_goOn 165 = .ok (.invokevirtual 60, 3) := by decide +kernel
theorem dX10_goOn_168 : decode cX10_goOn 168 = .ok (.iinc 4 1, 3) := by decide +kernel
theorem dX10_goOn_171 : decode cX10_goOn 171 = .ok (.goto (-105), 3) := by decide +kernel
theorem dX10_goOn_174 : decode cX10_goOn 174 = .ok (.return_, 1) := by decide +kernel
theorem dX10_find_0 : decode cX10_find 0 = .ok (.aload_n 0, 1) := by decide +kernel
theorem dX10_find_1 : decode cX10_find 1 = .ok (.iload_n 1, 1) := by decide +kernel
theorem dX10_find_2 : decode cX10_find 2 = .ok (.bipush 6, 2) := by decide +kernel
theorem dX10_find_4 : decode cX10_find 4 = .ok (.invokestatic 54, 3) := by decide +kernel
theorem dX10_find_7 : decode cX10_find 7 = .ok (.putfield 25, 3) := by decide +kernel
theorem dX10_find_10 : decode cX10_find 10 = .ok (.aload_n 0, 1) := by decide +kernel
theorem dX10_find_11 : decode cX10_find 11 = .ok (.iconst 0, 1) := by decide +kernel
theorem dX10_find_12 : decode cX10_find 12 = .ok (.putfield 15, 3) := by decide +kernel
theorem dX10_find_15 : decode cX10_find 15 = .ok (.aload_n 0, 1) := by decide +kernel
theorem dX10_find_16 : decode cX10_find 16 = .ok (.iload_n 2, 1) := by decide +kernel
theorem dX10_find_17 : decode cX10_find 17 = .ok (.putfield 19, 3) := by decide +kernel
theorem dX10_find_20 : decode cX10_find 20 = .ok (.aload_n 0, 1) := by decide +kernel
theorem dX10_find_21 : decode cX10_find 21 = .ok (.iconst 0, 1) := by decide +kernel
theorem dX10_find_22 : decode cX10_find 22 = .ok (.iconst 0, 1) := by decide +kernel
theorem dX10_find_23 : decode cX10_find 23 = .ok (.iload_n 2, 1) := by decide +kernel
theorem dX10_find_24 : decode cX10_find 24 = .ok (.invokevirtual 60, 3) := by decide +kernel
theorem dX10_find_27 : decode cX10_find 27 = .ok (.return_, 1) := by decide +kernel
theorem dX10_findMostConvicted_0 : decode cX10_findMostConvicted 0 = .ok (.aload_n 0, 1) := by decide +kernel
theorem dX10_findMostConvicted_1 : decode cX10_findMostConvicted 1 = .ok (.iconst 0, 1) := by decide +kernel
theorem dX10_findMostConvicted_2 : decode cX10_findMostConvicted 2 = .ok (.putfield 28, 3) := by decide +kernel
theorem dX10_findMostConvicted_5 : decode cX10_findMostConvicted 5 = .ok (.aload_n 0, 1) := by decide +kernel
theorem dX10_findMostConvicted_6 : decode cX10_findMostConvicted 6 = .ok (.iload_n 1, 1) := by decide +kernel
theorem dX10_findMostConvicted_7 : decode cX10_findMostConvicted 7 = .ok (.iconst 0, 1) := by decide +kernel
theorem dX10_findMostConvicted_8 : decode cX10_findMostConvicted 8 = .ok (.invokevirtual 40, 3) := by decide +kernel
theorem dX10_findMostConvicted_11 : decode cX10_findMostConvicted 11 = .ok (.return_, 1) := by decide +kernel
theorem dX11_tellTurns_0 : decode cX11_tellTurns 0 = .ok (.aload_n 0, 1) := by decide +kernel
theorem dX11_tellTurns_1 : decode cX11_tellTurns 1 = .ok (.getfield 19, 3) := by decide +kernel
theorem dX11_tellTurns_4 : decode cX11_tellTurns 4 = .ok (.invokevirtual 284, 3) := by decide +kernel
theorem dX11_tellTurns_7 : decode cX11_tellTurns 7 = .ok (.iconst 0, 1) := by decide +kernel
theorem dX11_tellTurns_8 : decode cX11_tellTurns 8 = .ok (.istore_n 1, 1) := by decide +kernel
theorem dX11_tellTurns_9 : decode cX11_tellTurns 9 = .ok (.iload_n 1, 1) := by decide +kernel
theorem dX11_tellTurns_10 : decode cX11_tellTurns 10 = .ok (.aload_n 0, 1) := by decide +kernel
theorem dX11_tellTurns_11 : decode cX11_tellTurns 11 = .ok (.getfield 84, 3) := by decide +kernel
theorem dX11_tellTurns_14 : decode cX11_tellTurns 14 = .ok (.getfield 421, 3) := by decide +kernel
theorem dX11_tellTurns_17 : decode cX11_tellTurns 17 = .ok (.if_icmp .ge 26, 3) := by decide +kernel
theorem dX11_tellTurns_20 : decode cX11_tellTurns 20 = .ok (.aload_n 0, 1) := by decide +kernel
theorem dX11_tellTurns_21 : decode cX11_tellTurns 21 = .ok (.getfield 19, 3) := by decide +kernel
theorem dX11_tellTurns_24 : decode cX11_tellTurns 24 = .ok (.aload_n 0, 1) := by decide +kernel
theorem dX11_tellTurns_25 : decode cX11_tellTurns 25 = .ok (.getfield 84, 3) := by decide +kernel
theorem dX11_tellTurns_28 : decode cX11_tellTurns 28 = .ok (.getfield 424, 3) := by decide +kernel
theorem dX11_tellTurns_31 : decode cX11_tellTurns 31 = .ok (.iload_n 1, 1) := by decide +kernel
theorem dX11_tellTurns_32 : decode cX11_tellTurns 32 = .ok (.iaload, 1) := by decide +kernel
theorem dX11_tellTurns_33 : decode cX11_tellTurns 33 = .ok (.i2l, 1) := by decide +kernel
theorem dX11_tellTurns_34 : decode cX11_tellTurns 34 = .ok (.invokevirtual 290, 3) := by decide +kernel
theorem dX11_tellTurns_37 : decode cX11_tellTurns 37 = .ok (.iinc 1 1, 3) := by decide +kernel
theorem dX11_tellTurns_40 : decode cX11_tellTurns 40 = .ok (.goto (-31), 3) := by decide +kernel
theorem dX11_tellTurns_43 : decode cX11_tellTurns 43 = .ok (.return_, 1) := by decide +kernel
theorem dX11_trials_0 : decode cX11_trials 0 = .ok (.aload_n 0, 1) := by decide +kernel
theorem dX11_trials_1 : decode cX11_trials 1 = .ok (.getfield 84, 3) := by decide +kernel
theorem dX11_trials_4 : decode cX11_trials 4 = .ok (.aload_n 0, 1) := by decide +kernel
theorem dX11_trials_5 : decode cX11_trials 5 = .ok (.invokevirtual 315, 3) := by decide +kernel
theorem dX11_trials_8 : decode cX11_trials 8 = .ok (.invokevirtual 322, 3) := by decide +kernel
theorem dX11_trials_11 : decode cX11_trials 11 = .ok (.aload_n 0, 1) := by decide +kernel
theorem dX11_trials_12 : decode cX11_trials 12 = .ok (.invokevirtual 326, 3) := by decide +kernel
theorem dX11_trials_15 : decode cX11_trials 15 = .ok (.aload_n 0, 1) := by decide +kernel
theorem dX11_trials_16 : decode cX11_trials 16 = .ok (.getfield 84, 3) := by decide +kernel
theorem dX11_trials_19 : decode cX11_trials 19 = .ok (.getfield 329, 3) := by decide +kernel
theorem dX11_trials_22 : decode cX11_trials 22 = .ok (.ireturn, 1) := by decide +kernel
theorem dX12_keepLine_0 : decode cX12_keepLine 0 = .ok (.aload_n 0, 1) := by decide +kernel
theorem dX12_keepLine_1 : decode cX12_keepLine 1 = .ok (.iload_n 1, 1) := by decide +kernel
theorem dX12_keepLine_2 : decode cX12_keepLine 2 = .ok (.putfield 316, 3) := by decide +kernel
theorem dX12_keepLine_5 : decode cX12_keepLine 5 = .ok (.iconst 0, 1) := by decide +kernel
theorem dX12_keepLine_6 : decode cX12_keepLine 6 = .ok (.istore_n 2, 1) := by decide +kernel
theorem dX12_keepLine_7 : decode cX12_keepLine 7 = .ok (.iload_n 2, 1) := by decide +kernel
theorem dX12_keepLine_8 : decode cX12_keepLine 8 = .ok (.iload_n 1, 1) := by decide +kernel
theorem dX12_keepLine_9 : decode cX12_keepLine 9 = .ok (.if_icmp .ge 21, 3) := by decide +kernel
theorem dX12_keepLine_12 : decode cX12_keepLine 12 = .ok (.aload_n 0, 1) := by decide +kernel
theorem dX12_keepLine_13 : decode cX12_keepLine 13 = .ok (.getfield 80, 3) := by decide +kernel
theorem dX12_keepLine_16 : decode cX12_keepLine 16 = .ok (.iload_n 2, 1) := by decide +kernel
theorem dX12_keepLine_17 : decode cX12_keepLine 17 = .ok (.aload_n 0, 1) := by decide +kernel
theorem dX12_keepLine_18 : decode cX12_keepLine 18 = .ok (.getfield 77, 3) := by decide +kernel
theorem dX12_keepLine_21 : decode cX12_keepLine 21 = .ok (.iload_n 2, 1) := by decide +kernel
theorem dX12_keepLine_22 : decode cX12_keepLine 22 = .ok (.iaload, 1) := by decide +kernel
theorem dX12_keepLine_23 : decode cX12_keepLine 23 = .ok (.iastore, 1) := by decide +kernel
theorem dX12_keepLine_24 : decode cX12_keepLine 24 = .ok (.iinc 2 1, 3) := by decide +kernel
theorem dX12_keepLine_27 : decode cX12_keepLine 27 = .ok (.goto (-20), 3) := by decide +kernel
theorem dX12_keepLine_30 : decode cX12_keepLine 30 = .ok (.return_, 1) := by decide +kernel
theorem dX12_goTrials_0 : decode cX12_goTrials 0 = .ok (.iload_n 2, 1) := by decide +kernel
theorem dX12_goTrials_1 : decode cX12_goTrials 1 = .ok (.aload_n 0, 1) := by decide +kernel
theorem dX12_goTrials_2 : decode cX12_goTrials 2 = .ok (.getfield 316, 3) := by decide +kernel
theorem dX12_goTrials_5 : decode cX12_goTrials 5 = .ok (.if_icmp .le 8, 3) := by decide +kernel
theorem dX12_goTrials_8 : decode cX12_goTrials 8 = .ok (.aload_n 0, 1) := by decide +kernel
theorem dX12_goTrials_9 : decode cX12_goTrials 9 = .ok (.iload_n 2, 1) := by decide +kernel
theorem dX12_goTrials_10 : decode cX12_goTrials 10 = .ok (.invokevirtual 319, 3) := by decide +kernel
theorem dX12_goTrials_13 : decode cX12_goTrials 13 = .ok (.iconst 0, 1) := by decide +kernel
theorem dX12_goTrials_14 : decode cX12_goTrials 14 = .ok (.istore_n 3, 1) := by decide +kernel
theorem dX12_goTrials_15 : decode cX12_goTrials 15 = .ok (.iload_n 3, 1) := by decide +kernel
theorem dX12_goTrials_16 : decode cX12_goTrials 16 = .ok (.aload_n 0, 1) := by decide +kernel
theorem dX12_goTrials_17 : decode cX12_goTrials 17 = .ok (.getfield 101, 3) := by decide +kernel
theorem dX12_goTrials_20 : decode cX12_goTrials 20 = .ok (.if_icmp .ge 64, 3) := by decide +kernel
theorem dX12_goTrials_23 : decode cX12_goTrials 23 = .ok (.iload_n 1, 1) := by decide +kernel
theorem dX12_goTrials_24 : decode cX12_goTrials 24 = .ok (.iload_n 3, 1) := by decide +kernel
theorem dX12_goTrials_25 : decode cX12_goTrials 25 = .ok (.invokestatic 158, 3) := by decide +kernel
theorem dX12_goTrials_28 : decode cX12_goTrials 28 = .ok (.ifCond .eq 50, 3) := by decide +kernel
theorem dX12_goTrials_31 : decode cX12_goTrials 31 = .ok (.aload_n 0, 1) := by decide +kernel
theorem dX12_goTrials_32 : decode cX12_goTrials 32 = .ok (.iload_n 2, 1) := by decide +kernel
theorem dX12_goTrials_33 : decode cX12_goTrials 33 = .ok (.invokevirtual 313, 3) := by decide +kernel
theorem dX12_goTrials_36 : decode cX12_goTrials 36 = .ok (.ifCond .eq 42, 3) := by decide +kernel
theorem dX12_goTrials_39 : decode cX12_goTrials 39 = .ok (.aload_n 0, 1) := by decide +kernel
theorem dX12_goTrials_40 : decode cX12_goTrials 40 = .ok (.aload_n 0, 1) := by decide +kernel
theorem dX12_goTrials_41 : decode cX12_goTrials 41 = .ok (.getfield 9, 3) := by decide +kernel
theorem dX12_goTrials_44 : decode cX12_goTrials 44 = .ok (.iload_n 3, 1) := by decide +kernel
theorem dX12_goTrials_45 : decode cX12_goTrials 45 = .ok (.iload_n 2, 1) := by decide +kernel
theorem dX12_goTrials_46 : decode cX12_goTrials 46 = .ok (.invokevirtual 235, 3) := by decide +kernel
theorem dX12_goTrials_49 : decode cX12_goTrials 49 = .ok (.bipush 100, 2) := by decide +kernel
theorem dX12_goTrials_51 : decode cX12_goTrials 51 = .ok (.if_icmp .ge 6, 3) := by decide +kernel
theorem dX12_goTrials_54 : decode cX12_goTrials 54 = .ok (.goto 24, 3) := by decide +kernel
theorem dX12_goTrials_57 : decode cX12_goTrials 57 = .ok (.aload_n 0, 1) := by decide +kernel
theorem dX12_goTrials_58 : decode cX12_goTrials 58 = .ok (.getfield 77, 3) := by decide +kernel
theorem dX12_goTrials_61 : decode cX12_goTrials 61 = .ok (.iload_n 2, 1) := by decide +kernel
theorem dX12_goTrials_62 : decode cX12_goTrials 62 = .ok (.iload_n 3, 1) := by decide +kernel
theorem dX12_goTrials_63 : decode cX12_goTrials 63 = .ok (.iastore, 1) := by decide +kernel
theorem dX12_goTrials_64 : decode cX12_goTrials 64 = .ok (.aload_n 0, 1) := by decide +kernel
theorem dX12_goTrials_65 : decode cX12_goTrials 65 = .ok (.iload_n 1, 1) := by decide +kernel
theorem dX12_goTrials_66 : decode cX12_goTrials 66 = .ok (.iconst 1, 1) := by decide +kernel
theorem dX12_goTrials_67 : decode cX12_goTrials 67 = .ok (.iload_n 3, 1) := by decide +kernel
theorem dX12_goTrials_68 : decode cX12_goTrials 68 = .ok (.ishl, 1) := by decide +kernel
theorem dX12_goTrials_69 : decode cX12_goTrials 69 = .ok (.iconst (-1), 1) := by decide +kernel
theorem dX12_goTrials_70 : decode cX12_goTrials 70 = .ok (.ixor, 1) := by decide +kernel
theorem dX12_goTrials_71 : decode cX12_goTrials 71 = .ok (.iand, 1) := by decide +kernel
theorem dX12_goTrials_72 : decode cX12_goTrials 72 = .ok (.iload_n 2, 1) := by decide +kernel
theorem dX12_goTrials_73 : decode cX12_goTrials 73 = .ok (.iconst 1, 1) := by decide +kernel
theorem dX12_goTrials_74 : decode cX12_goTrials 74 = .ok (.iadd, 1) := by decide +kernel
theorem dX12_goTrials_75 : decode cX12_goTrials 75 = .ok (.invokevirtual 322, 3) := by decide +kernel
theorem dX12_goTrials_78 : decode cX12_goTrials 78 = .ok (.iinc 3 1, 3) := by decide +kernel
theorem dX12_goTrials_81 : decode cX12_goTrials 81 = .ok (.goto (-66), 3) := by decide +kernel
theorem dX12_goTrials_84 : decode cX12_goTrials 84 = .ok (.return_, 1) := by decide +kernel
theorem dX12_tellLine_0 : decode cX12_tellLine 0 = .ok (.aload_n 0, 1) := by decide +kernel
theorem dX12_tellLine_1 : decode cX12_tellLine 1 = .ok (.iconst 0, 1) := by decide +kernel
theorem dX12_tellLine_2 : decode cX12_tellLine 2 = .ok (.putfield 98, 3) := by decide +kernel
theorem dX12_tellLine_5 : decode cX12_tellLine 5 = .ok (.iconst 0, 1) := by decide +kernel
theorem dX12_tellLine_6 : decode cX12_tellLine 6 = .ok (.istore_n 1, 1) := by decide +kernel
theorem dX12_tellLine_7 : decode cX12_tellLine 7 = .ok (.iload_n 1, 1) := by decide +kernel
theorem dX12_tellLine_8 : decode cX12_tellLine 8 = .ok (.aload_n 0, 1) := by decide +kernel
theorem dX12_tellLine_9 : decode cX12_tellLine 9 = .ok (.getfield 316, 3) := by decide +kernel
theorem dX12_tellLine_12 : decode cX12_tellLine 12 = .ok (.if_icmp .ge 20, 3) := by decide +kernel
theorem dX12_tellLine_15 : decode cX12_tellLine 15 = .ok (.aload_n 0, 1) := by decide +kernel
theorem dX12_tellLine_16 : decode cX12_tellLine 16 = .ok (.aload_n 0, 1) := by decide +kernel
theorem dX12_tellLine_17 : decode cX12_tellLine 17 = .ok (.getfield 80, 3) := by decide +kernel
theorem dX12_tellLine_20 : decode cX12_tellLine 20 = .ok (.iload_n 1, 1) := by decide +kernel
theorem dX12_tellLine_21 : decode cX12_tellLine 21 = .ok (.iaload, 1) := by decide +kernel
theorem dX12_tellLine_22 : decode cX12_tellLine 22 = .ok (.i2l, 1) := by decide +kernel
theorem dX12_tellLine_23 : decode cX12_tellLine 23 = .ok (.invokevirtual 267, 3) := by decide +kernel
theorem dX12_tellLine_26 : decode cX12_tellLine 26 = .ok (.iinc 1 1, 3) := by decide +kernel
theorem dX12_tellLine_29 : decode cX12_tellLine 29 = .ok (.goto (-22), 3) := by decide +kernel
theorem dX12_tellLine_32 : decode cX12_tellLine 32 = .ok (.return_, 1) := by decide +kernel
theorem dX12_trials_0 : decode cX12_trials 0 = .ok (.aload_n 0, 1) := by decide +kernel
theorem dX12_trials_1 : decode cX12_trials 1 = .ok (.iconst 0, 1) := by decide +kernel
theorem dX12_trials_2 : decode cX12_trials 2 = .ok (.putfield 95, 3) := by decide +kernel
theorem dX12_trials_5 : decode cX12_trials 5 = .ok (.aload_n 0, 1) := by decide +kernel
theorem dX12_trials_6 : decode cX12_trials 6 = .ok (.iconst 0, 1) := by decide +kernel
theorem dX12_trials_7 : decode cX12_trials 7 = .ok (.putfield 316, 3) := by decide +kernel
theorem dX12_trials_10 : decode cX12_trials 10 = .ok (.aload_n 0, 1) := by decide +kernel
theorem dX12_trials_11 : decode cX12_trials 11 = .ok (.aload_n 0, 1) := by decide +kernel
theorem dX12_trials_12 : decode cX12_trials 12 = .ok (.aload_n 0, 1) := by decide +kernel
theorem dX12_trials_13 : decode cX12_trials 13 = .ok (.getfield 9, 3) := by decide +kernel
theorem dX12_trials_16 : decode cX12_trials 16 = .ok (.iconst 1, 1) := by decide +kernel
theorem dX12_trials_17 : decode cX12_trials 17 = .ok (.invokevirtual 271, 3) := by decide +kernel
theorem dX12_trials_20 : decode cX12_trials 20 = .ok (.iconst 0, 1) := by decide +kernel
theorem dX12_trials_21 : decode cX12_trials 21 = .ok (.invokevirtual 322, 3) := by decide +kernel
theorem dX12_trials_24 : decode cX12_trials 24 = .ok (.aload_n 0, 1) := by decide +kernel
theorem dX12_trials_25 : decode cX12_trials 25 = .ok (.invokevirtual 326, 3) := by decide +kernel
theorem dX12_trials_28 : decode cX12_trials 28 = .ok (.aload_n 0, 1) := by decide +kernel
theorem dX12_trials_29 : decode cX12_trials 29 = .ok (.getfield 316, 3) := by decide +kernel
theorem dX12_trials_32 : decode cX12_trials 32 = .ok (.ireturn, 1) := by decide +kernel
theorem dX10_findMostForKing_0 : decode cX10_findMostForKing 0 = .ok (.aload_n 0, 1) := by decide +kernel
theorem dX10_findMostForKing_1 : decode cX10_findMostForKing 1 = .ok (.iconst 1, 1) := by decide +kernel
theorem dX10_findMostForKing_2 : decode cX10_findMostForKing 2 = .ok (.putfield 28, 3) := by decide +kernel
theorem dX10_findMostForKing_5 : decode cX10_findMostForKing 5 = .ok (.iconst 0, 1) := by decide +kernel
theorem dX10_findMostForKing_6 : decode cX10_findMostForKing 6 = .ok (.istore_n 2, 1) := by decide +kernel
theorem dX10_findMostForKing_7 : decode cX10_findMostForKing 7 = .ok (.iconst 0, 1) := by decide +kernel
theorem dX10_findMostForKing_8 : decode cX10_findMostForKing 8 = .ok (.istore_n 3, 1) := by decide +kernel
theorem dX10_findMostForKing_9 : decode cX10_findMostForKing 9 = .ok (.iload_n 3, 1) := by decide +kernel
theorem dX10_findMostForKing_10 : decode cX10_findMostForKing 10 = .ok (.bipush 6, 2) := by decide +kernel
theorem dX10_findMostForKing_12 : decode cX10_findMostForKing 12 = .ok (.if_icmp .ge 34, 3) := by decide +kernel
theorem dX10_findMostForKing_15 : decode cX10_findMostForKing 15 = .ok (.iload_n 2, 1) := by decide +kernel
theorem dX10_findMostForKing_16 : decode cX10_findMostForKing 16 = .ok (.aload_n 0, 1) := by decide +kernel
theorem dX10_findMostForKing_17 : decode cX10_findMostForKing 17 = .ok (.iload_n 3, 1) := by decide +kernel
theorem dX10_findMostForKing_18 : decode cX10_findMostForKing 18 = .ok (.invokevirtual 44, 3) := by decide +kernel
theorem dX10_findMostForKing_21 : decode cX10_findMostForKing 21 = .ok (.ifCond .eq 16, 3) := by decide +kernel
theorem dX10_findMostForKing_24 : decode cX10_findMostForKing 24 = .ok (.aload_n 0, 1) := by decide +kernel
theorem dX10_findMostForKing_25 : decode cX10_findMostForKing 25 = .ok (.getfield 36, 3) := by decide +kernel
theorem dX10_findMostForKing_28 : decode cX10_findMostForKing 28 = .ok (.iload_n 3, 1) := by decide +kernel
theorem dX10_findMostForKing_29 : decode cX10_findMostForKing 29 = .ok (.iconst 5, 1) := by decide +kernel
theorem dX10_findMostForKing_30 : decode cX10_findMostForKing 30 = .ok (.iconst 1, 1) := by decide +kernel
theorem dX10_findMostForKing_31 : decode cX10_findMostForKing 31 = .ok (.invokevirtual 48, 3) := by decide +kernel
theorem dX10_findMostForKing_34 : decode cX10_findMostForKing 34 = .ok (.goto 4, 3) := by decide +kernel
theorem dX10_findMostForKing_37 : decode cX10_findMostForKing 37 = .ok (.iconst 0, 1) := by decide +kernel
theorem dX10_findMostForKing_38 : decode cX10_findMostForKing 38 = .ok (.iadd, 1) := by decide +kernel
theorem dX10_findMostForKing_39 : decode cX10_findMostForKing 39 = .ok (.istore_n 2, 1) := by decide +kernel
theorem dX10_findMostForKing_40 : decode cX10_findMostForKing 40 = .ok (.iinc 3 1, 3) := by decide +kernel
theorem dX10_findMostForKing_43 : decode cX10_findMostForKing 43 = .ok (.goto (-34), 3) := by decide +kernel
theorem dX10_findMostForKing_46 : decode cX10_findMostForKing 46 = .ok (.aload_n 0, 1) := by decide +kernel
theorem dX10_findMostForKing_47 : decode cX10_findMostForKing 47 = .ok (.iload_n 1, 1) := by decide +kernel
theorem dX10_findMostForKing_48 : decode cX10_findMostForKing 48 = .ok (.iload_n 2, 1) := by decide +kernel
theorem dX10_findMostForKing_49 : decode cX10_findMostForKing 49 = .ok (.invokevirtual 40, 3) := by decide +kernel
theorem dX10_findMostForKing_52 : decode cX10_findMostForKing 52 = .ok (.return_, 1) := by decide +kernel
theorem dX11_docket_0 : decode cX11_docket 0 = .ok (.aload_n 0, 1) := by decide +kernel
theorem dX11_docket_1 : decode cX11_docket 1 = .ok (.getfield 84, 3) := by decide +kernel
theorem dX11_docket_4 : decode cX11_docket 4 = .ok (.aload_n 0, 1) := by decide +kernel
theorem dX11_docket_5 : decode cX11_docket 5 = .ok (.invokevirtual 315, 3) := by decide +kernel
theorem dX11_docket_8 : decode cX11_docket 8 = .ok (.invokevirtual 332, 3) := by decide +kernel
theorem dX11_docket_11 : decode cX11_docket 11 = .ok (.aload_n 0, 1) := by decide +kernel
theorem dX11_docket_12 : decode cX11_docket 12 = .ok (.invokevirtual 326, 3) := by decide +kernel
theorem dX11_docket_15 : decode cX11_docket 15 = .ok (.aload_n 0, 1) := by decide +kernel
theorem dX11_docket_16 : decode cX11_docket 16 = .ok (.getfield 84, 3) := by decide +kernel
theorem dX11_docket_19 : decode cX11_docket 19 = .ok (.getfield 329, 3) := by decide +kernel
theorem dX11_docket_22 : decode cX11_docket 22 = .ok (.ireturn, 1) := by decide +kernel
theorem dX12_kingsBy_0 : decode cX12_kingsBy 0 = .ok (.aload_n 0, 1) := by decide +kernel
theorem dX12_kingsBy_1 : decode cX12_kingsBy 1 = .ok (.iload_n 2, 1) := by decide +kernel
theorem dX12_kingsBy_2 : decode cX12_kingsBy 2 = .ok (.invokevirtual 304, 3) := by decide +kernel
theorem dX12_kingsBy_5 : decode cX12_kingsBy 5 = .ok (.iconst 1, 1) := by decide +kernel
theorem dX12_kingsBy_6 : decode cX12_kingsBy 6 = .ok (.if_icmp .ne 16, 3) := by decide +kernel
theorem dX12_kingsBy_9 : decode cX12_kingsBy 9 = .ok (.aload_n 0, 1) := by decide +kernel
theorem dX12_kingsBy_10 : decode cX12_kingsBy 10 = .ok (.aload_n 0, 1) := by decide +kernel
theorem dX12_kingsBy_11 : decode cX12_kingsBy 11 = .ok (.getfield 26, 3) := by decide +kernel
theorem dX12_kingsBy_14 : decode cX12_kingsBy 14 = .ok (.iload_n 1, 1) := by decide +kernel
theorem dX12_kingsBy_15 : decode cX12_kingsBy 15 = .ok (.iaload, 1) := by decide +kernel
theorem dX12_kingsBy_16 : decode cX12_kingsBy 16 = .ok (.invokevirtual 239, 3) := by decide +kernel
theorem dX12_kingsBy_19 : decode cX12_kingsBy 19 = .ok (.goto 4, 3) := by decide +kernel
theorem dX12_kingsBy_22 : decode cX12_kingsBy 22 = .ok (.iconst 0, 1) := by decide +kernel
theorem dX12_kingsBy_23 : decode cX12_kingsBy 23 = .ok (.ireturn, 1) := by decide +kernel
theorem dX12_kingsOf_0 : decode cX12_kingsOf 0 = .ok (.iconst 0, 1) := by decide +kernel
theorem dX12_kingsOf_1 : decode cX12_kingsOf 1 = .ok (.istore_n 2, 1) := by decide +kernel
theorem dX12_kingsOf_2 : decode cX12_kingsOf 2 = .ok (.iconst 0, 1) := by decide +kernel
theorem dX12_kingsOf_3 : decode cX12_kingsOf 3 = .ok (.istore_n 3, 1) := by decide +kernel
theorem dX12_kingsOf_4 : decode cX12_kingsOf 4 = .ok (.iload_n 3, 1) := by decide +kernel
theorem dX12_kingsOf_5 : decode cX12_kingsOf 5 = .ok (.aload_n 0, 1) := by decide +kernel
theorem dX12_kingsOf_6 : decode cX12_kingsOf 6 = .ok (.getfield 101, 3) := by decide +kernel
theorem dX12_kingsOf_9 : decode cX12_kingsOf 9 = .ok (.if_icmp .ge 30, 3) := by decide +kernel
theorem dX12_kingsOf_12 : decode cX12_kingsOf 12 = .ok (.iload_n 2, 1) := by decide +kernel
theorem dX12_kingsOf_13 : decode cX12_kingsOf 13 = .ok (.iload_n 1, 1) := by decide +kernel
theorem dX12_kingsOf_14 : decode cX12_kingsOf 14 = .ok (.iload_n 3, 1) := by decide +kernel
theorem dX12_kingsOf_15 : decode cX12_kingsOf 15 = .ok (.invokestatic 158, 3) := by decide +kernel
theorem dX12_kingsOf_18 : decode cX12_kingsOf 18 = .ok (.ifCond .eq 12, 3) := by decide +kernel
theorem dX12_kingsOf_21 : decode cX12_kingsOf 21 = .ok (.aload_n 0, 1) := by decide +kernel
theorem dX12_kingsOf_22 : decode cX12_kingsOf 22 = .ok (.iload_n 3, 1) := by decide +kernel
theorem dX12_kingsOf_23 : decode cX12_kingsOf 23 = .ok (.iconst 5, 1) := by decide +kernel
theorem dX12_kingsOf_24 : decode cX12_kingsOf 24 = .ok (.invokevirtual 329, 3) := by decide +kernel
theorem dX12_kingsOf_27 : decode cX12_kingsOf 27 = .ok (.goto 4, 3) := by decide +kernel
theorem dX12_kingsOf_30 : decode cX12_kingsOf 30 = .ok (.iconst 0, 1) := by decide +kernel
theorem dX12_kingsOf_31 : decode cX12_kingsOf 31 = .ok (.iadd, 1) := by decide +kernel
theorem dX12_kingsOf_32 : decode cX12_kingsOf 32 = .ok (.istore_n 2, 1) := by decide +kernel
theorem dX12_kingsOf_33 : decode cX12_kingsOf 33 = .ok (.iinc 3 1, 3) := by decide +kernel
theorem dX12_kingsOf_36 : decode cX12_kingsOf 36 = .ok (.goto (-32), 3) := by decide +kernel
theorem dX12_kingsOf_39 : decode cX12_kingsOf 39 = .ok (.iload_n 2, 1) := by decide +kernel
theorem dX12_kingsOf_40 : decode cX12_kingsOf 40 = .ok (.ireturn, 1) := by decide +kernel
theorem dX12_goDocket_0 : decode cX12_goDocket 0 = .ok (.iload_n 3, 1) := by decide +kernel
theorem dX12_goDocket_1 : decode cX12_goDocket 1 = .ok (.aload_n 0, 1) := by decide +kernel
theorem dX12_goDocket_2 : decode cX12_goDocket 2 = .ok (.iload_n 1, 1) := by decide +kernel
theorem dX12_goDocket_3 : decode cX12_goDocket 3 = .ok (.invokevirtual 332, 3) := by decide +kernel
theorem dX12_goDocket_6 : decode cX12_goDocket 6 = .ok (.iadd, 1) := by decide +kernel
theorem dX12_goDocket_7 : decode cX12_goDocket 7 = .ok (.istore 4, 2) := by decide +kernel
theorem dX12_goDocket_9 : decode cX12_goDocket 9 = .ok (.iload 4, 2) := by decide +kernel
theorem dX12_goDocket_11 : decode cX12_goDocket 11 = .ok (.aload_n 0, 1) := by decide +kernel
theorem dX12_goDocket_12 : decode cX12_goDocket 12 = .ok (.getfield 335, 3) := by decide +kernel
theorem dX12_goDocket_15 : decode cX12_goDocket 15 = .ok (.if_icmp .gt 20, 3) := by decide +kernel
theorem dX12_goDocket_18 : decode cX12_goDocket 18 = .ok (.iload 4, 2) := by decide +kernel
theorem dX12_goDocket_20 : decode cX12_goDocket 20 = .ok (.aload_n 0, 1) := by decide +kernel
theorem dX12_goDocket_21 : decode cX12_goDocket 21 = .ok (.getfield 335, 3) := by decide +kernel
theorem dX12_goDocket_24 : decode cX12_goDocket 24 = .ok (.if_icmp .ne 22, 3) := by decide +kernel
theorem dX12_goDocket_27 : decode cX12_goDocket 27 = .ok (.iload_n 2, 1) := by decide +kernel
theorem dX12_goDocket_28 : decode cX12_goDocket 28 = .ok (.aload_n 0, 1) := by decide +kernel
theorem dX12_goDocket_29 : decode cX12_goDocket 29 = .ok (.getfield 316, 3) := by decide +kernel
theorem dX12_goDocket_32 : decode cX12_goDocket 32 = .ok (.if_icmp .ge 14, 3) := by decide +kernel
theorem dX12_goDocket_35 : decode cX12_goDocket 35 = .ok (.aload_n 0, 1) := by decide +kernel
theorem dX12_goDocket_36 : decode cX12_goDocket 36 = .ok (.iload 4, 2) := by decide +kernel
theorem dX12_goDocket_38 : decode cX12_goDocket 38 = .ok (.putfield 335, 3) := by decide +kernel
theorem dX12_goDocket_41 : decode cX12_goDocket 41 = .ok (.aload_n 0, 1) := by decide +kernel
theorem dX12_goDocket_42 : decode cX12_goDocket 42 = .ok (.iload_n 2, 1) := by decide +kernel
theorem dX12_goDocket_43 : decode cX12_goDocket 43 = .ok (.invokevirtual 319, 3) := by decide +kernel
theorem dX12_goDocket_46 : decode cX12_goDocket 46 = .ok (.iconst 0, 1) := by decide +kernel
theorem dX12_goDocket_47 : decode cX12_goDocket 47 = .ok (.istore 5, 2) := by decide +kernel
theorem dX12_goDocket_49 : decode cX12_goDocket 49 = .ok (.iload 5, 2) := by decide +kernel
theorem dX12_goDocket_51 : decode cX12_goDocket 51 = .ok (.aload_n 0, 1) := by decide +kernel
theorem dX12_goDocket_52 : decode cX12_goDocket 52 = .ok (.getfield 101, 3) := by decide +kernel
theorem dX12_goDocket_55 : decode cX12_goDocket 55 = .ok (.if_icmp .ge 75, 3) := by decide +kernel
theorem dX12_goDocket_58 : decode cX12_goDocket 58 = .ok (.iload_n 1, 1) := by decide +kernel
theorem dX12_goDocket_59 : decode cX12_goDocket 59 = .ok (.iload 5, 2) := by decide +kernel
theorem dX12_goDocket_61 : decode cX12_goDocket 61 = .ok (.invokestatic 158, 3) := by decide +kernel
theorem dX12_goDocket_64 : decode cX12_goDocket 64 = .ok (.ifCond .eq 60, 3) := by decide +kernel
theorem dX12_goDocket_67 : decode cX12_goDocket 67 = .ok (.aload_n 0, 1) := by decide +kernel
theorem dX12_goDocket_68 : decode cX12_goDocket 68 = .ok (.iload_n 2, 1) := by decide +kernel
theorem dX12_goDocket_69 : decode cX12_goDocket 69 = .ok (.invokevirtual 313, 3) := by decide +kernel
theorem dX12_goDocket_72 : decode cX12_goDocket 72 = .ok (.ifCond .ne 6, 3) := by decide +kernel
theorem dX12_goDocket_75 : decode cX12_goDocket 75 = .ok (.goto 49, 3) := by decide +kernel
theorem dX12_goDocket_78 : decode cX12_goDocket 78 = .ok (.aload_n 0, 1) := by decide +kernel
theorem dX12_goDocket_79 : decode cX12_goDocket 79 = .ok (.getfield 77, 3) := by decide +kernel
theorem dX12_goDocket_82 : decode cX12_goDocket 82 = .ok (.iload_n 2, 1) := by decide +kernel
theorem dX12_goDocket_83 : decode cX12_goDocket 83 = .ok (.iload 5, 2) := by decide +kernel
theorem dX12_goDocket_85 : decode cX12_goDocket 85 = .ok (.iastore, 1) := by decide +kernel
theorem dX12_goDocket_86 : decode cX12_goDocket 86 = .ok (.aload_n 0, 1) := by decide +kernel
theorem dX12_goDocket_87 : decode cX12_goDocket 87 = .ok (.iload_n 1, 1) := by decide +kernel
theorem dX12_goDocket_88 : decode cX12_goDocket 88 = .ok (.iconst 1, 1) := by decide +kernel
theorem dX12_goDocket_89 : decode cX12_goDocket 89 = .ok (.iload 5, 2) := by decide +kernel
theorem dX12_goDocket_91 : decode cX12_goDocket 91 = .ok (.ishl, 1) := by decide +kernel
theorem dX12_goDocket_92 : decode cX12_goDocket 92 = .ok (.iconst (-1), 1) := by decide +kernel
theorem dX12_goDocket_93 : decode cX12_goDocket 93 = .ok (.ixor, 1) := by decide +kernel
theorem dX12_goDocket_94 : decode cX12_goDocket 94 = .ok (.iand, 1) := by decide +kernel
theorem dX12_goDocket_95 : decode cX12_goDocket 95 = .ok (.iload_n 2, 1) := by decide +kernel
theorem dX12_goDocket_96 : decode cX12_goDocket 96 = .ok (.iconst 1, 1) := by decide +kernel
theorem dX12_goDocket_97 : decode cX12_goDocket 97 = .ok (.iadd, 1) := by decide +kernel
theorem dX12_goDocket_98 : decode cX12_goDocket 98 = .ok (.iload_n 3, 1) := by decide +kernel
theorem dX12_goDocket_99 : decode cX12_goDocket 99 = .ok (.aload_n 0, 1) := by decide +kernel
theorem dX12_goDocket_100 : decode cX12_goDocket 100 = .ok (.iload 5, 2) := by decide +kernel
theorem dX12_goDocket_102 : decode cX12_goDocket 102 = .ok (.aload_n 0, 1) := by decide +kernel
theorem dX12_goDocket_103 : decode cX12_goDocket 103 = .ok (.aload_n 0, 1) := by decide +kernel
theorem dX12_goDocket_104 : decode cX12_goDocket 104 = .ok (.aload_n 0, 1) := by decide +kernel
theorem dX12_goDocket_105 : decode cX12_goDocket 105 = .ok (.getfield 9, 3) := by decide +kernel
theorem dX12_goDocket_108 : decode cX12_goDocket 108 = .ok (.iload 5, 2) := by decide +kernel
theorem dX12_goDocket_110 : decode cX12_goDocket 110 = .ok (.iload_n 2, 1) := by decide +kernel
theorem dX12_goDocket_111 : decode cX12_goDocket 111 = .ok (.invokevirtual 235, 3) := by decide +kernel
theorem dX12_goDocket_114 : decode cX12_goDocket 114 = .ok (.invokevirtual 264, 3) := by decide +kernel
theorem dX12_goDocket_117 : decode cX12_goDocket 117 = .ok (.invokevirtual 329, 3) := by decide +kernel
theorem dX12_goDocket_120 : decode cX12_goDocket 120 = .ok (.iadd, 1) := by decide +kernel
theorem dX12_goDocket_121 : decode cX12_goDocket 121 = .ok (.invokevirtual 338, 3) := by decide +kernel
theorem dX12_goDocket_124 : decode cX12_goDocket 124 = .ok (.iinc 5 1, 3) := by decide +kernel
theorem dX12_goDocket_127 : decode cX12_goDocket 127 = .ok (.goto (-78), 3) := by decide +kernel
theorem dX12_goDocket_130 : decode cX12_goDocket 130 = .ok (.return_, 1) := by decide +kernel
theorem dX12_docket_0 : decode cX12_docket 0 = .ok (.aload_n 0, 1) := by decide +kernel
theorem dX12_docket_1 : decode cX12_docket 1 = .ok (.iconst 0, 1) := by decide +kernel
theorem dX12_docket_2 : decode cX12_docket 2 = .ok (.putfield 95, 3) := by decide +kernel
theorem dX12_docket_5 : decode cX12_docket 5 = .ok (.aload_n 0, 1) := by decide +kernel
theorem dX12_docket_6 : decode cX12_docket 6 = .ok (.iconst (-1), 1) := by decide +kernel
theorem dX12_docket_7 : decode cX12_docket 7 = .ok (.putfield 335, 3) := by decide +kernel
theorem dX12_docket_10 : decode cX12_docket 10 = .ok (.aload_n 0, 1) := by decide +kernel
theorem dX12_docket_11 : decode cX12_docket 11 = .ok (.aload_n 0, 1) := by decide +kernel
theorem dX12_docket_12 : decode cX12_docket 12 = .ok (.aload_n 0, 1) := by decide +kernel
theorem dX12_docket_13 : decode cX12_docket 13 = .ok (.getfield 9, 3) := by decide +kernel
theorem dX12_docket_16 : decode cX12_docket 16 = .ok (.iconst 1, 1) := by decide +kernel
theorem dX12_docket_17 : decode cX12_docket 17 = .ok (.invokevirtual 271, 3) := by decide +kernel
theorem dX12_docket_20 : decode cX12_docket 20 = .ok (.iconst 0, 1) := by decide +kernel
theorem dX12_docket_21 : decode cX12_docket 21 = .ok (.iconst 0, 1) := by decide +kernel
theorem dX12_docket_22 : decode cX12_docket 22 = .ok (.invokevirtual 338, 3) := by decide +kernel
theorem dX12_docket_25 : decode cX12_docket 25 = .ok (.aload_n 0, 1) := by decide +kernel
theorem dX12_docket_26 : decode cX12_docket 26 = .ok (.invokevirtual 326, 3) := by decide +kernel
theorem dX12_docket_29 : decode cX12_docket 29 = .ok (.aload_n 0, 1) := by decide +kernel
theorem dX12_docket_30 : decode cX12_docket 30 = .ok (.getfield 335, 3) := by decide +kernel
theorem dX12_docket_33 : decode cX12_docket 33 = .ok (.ireturn, 1) := by decide +kernel
theorem dX11_fallsTo_0 : decode cX11_fallsTo 0 = .ok (.iconst 0, 1) := by decide +kernel
theorem dX11_fallsTo_1 : decode cX11_fallsTo 1 = .ok (.istore 4, 2) := by decide +kernel
theorem dX11_fallsTo_3 : decode cX11_fallsTo 3 = .ok (.iconst 0, 1) := by decide +kernel
theorem dX11_fallsTo_4 : decode cX11_fallsTo 4 = .ok (.istore 5, 2) := by decide +kernel
theorem dX11_fallsTo_6 : decode cX11_fallsTo 6 = .ok (.iload 5, 2) := by decide +kernel
theorem dX11_fallsTo_8 : decode cX11_fallsTo 8 = .ok (.aload_n 0, 1) := by decide +kernel
theorem dX11_fallsTo_9 : decode cX11_fallsTo 9 = .ok (.getfield 26, 3) := by decide +kernel
theorem dX11_fallsTo_12 : decode cX11_fallsTo 12 = .ok (.getfield 119, 3) := by decide +kernel
theorem dX11_fallsTo_15 : decode cX11_fallsTo 15 = .ok (.if_icmp .ge 95, 3) := by decide +kernel
theorem dX11_fallsTo_18 : decode cX11_fallsTo 18 = .ok (.aload_n 0, 1) := by decide +kernel
theorem dX11_fallsTo_19 : decode cX11_fallsTo 19 = .ok (.getfield 65, 3) := by decide +kernel
theorem dX11_fallsTo_22 : decode cX11_fallsTo 22 = .ok (.getfield 172, 3) := by decide +kernel
theorem dX11_fallsTo_25 : decode cX11_fallsTo 25 = .ok (.iload 5, 2) := by decide +kernel
theorem dX11_fallsTo_27 : decode cX11_fallsTo 27 = .ok (.iaload, 1) := by decide +kernel
theorem dX11_fallsTo_28 : decode cX11_fallsTo 28 = .ok (.iconst 2, 1) := by decide +kernel
theorem dX11_fallsTo_29 : decode cX11_fallsTo 29 = .ok (.isub, 1) := by decide +kernel
theorem dX11_fallsTo_30 : decode cX11_fallsTo 30 = .ok (.istore 6, 2) := by decide +kernel
theorem dX11_fallsTo_32 : decode cX11_fallsTo 32 = .ok (.iload_n 2, 1) := by decide +kernel
theorem dX11_fallsTo_33 : decode cX11_fallsTo 33 = .ok (.ifCond .ne 17, 3) := by decide +kernel
theorem dX11_fallsTo_36 : decode cX11_fallsTo 36 = .ok (.aload_n 0, 1) := by decide +kernel
theorem dX11_fallsTo_37 : decode cX11_fallsTo 37 = .ok (.getfield 26, 3) := by decide +kernel
theorem dX11_fallsTo_40 : decode cX11_fallsTo 40 = .ok (.getfield 166, 3) := by decide +kernel
theorem dX11_fallsTo_43 : decode cX11_fallsTo 43 = .ok (.iload 5, 2) := by decide +kernel
theorem dX11_fallsTo_45 : decode cX11_fallsTo 45 = .ok (.iaload, 1) := by decide +kernel
theorem dX11_fallsTo_46 : decode cX11_fallsTo 46 = .ok (.iload_n 3, 1) := by decide +kernel
theorem dX11_fallsTo_47 : decode cX11_fallsTo 47 = .ok (.if_icmp .ne 7, 3) := by decide +kernel
theorem dX11_fallsTo_50 : decode cX11_fallsTo 50 = .ok (.iconst 1, 1) := by decide +kernel
theorem dX11_fallsTo_51 : decode cX11_fallsTo 51 = .ok (.goto 4, 3) := by decide +kernel
theorem dX11_fallsTo_54 : decode cX11_fallsTo 54 = .ok (.iconst 0, 1) := by decide +kernel
theorem dX11_fallsTo_55 : decode cX11_fallsTo 55 = .ok (.istore 7, 2) := by decide +kernel
theorem dX11_fallsTo_57 : decode cX11_fallsTo 57 = .ok (.iload 6, 2) := by decide +kernel
theorem dX11_fallsTo_59 : decode cX11_fallsTo 59 = .ok (.ifCond .lt 45, 3) := by decide +kernel
theorem dX11_fallsTo_62 : decode cX11_fallsTo 62 = .ok (.iload 6, 2) := by decide +kernel
theorem dX11_fallsTo_64 : decode cX11_fallsTo 64 = .ok (.aload_n 1, 1) := by decide +kernel
theorem dX11_fallsTo_65 : decode cX11_fallsTo 65 = .ok (.arraylength, 1) := by decide +kernel
theorem dX11_fallsTo_66 : decode cX11_fallsTo 66 = .ok (.if_icmp .ge 38, 3) := by decide +kernel
theorem dX11_fallsTo_69 : decode cX11_fallsTo 69 = .ok (.aload_n 1, 1) := by decide +kernel
theorem dX11_fallsTo_70 : decode cX11_fallsTo 70 = .ok (.iload 6, 2) := by decide +kernel
theorem dX11_fallsTo_72 : decode cX11_fallsTo 72 = .ok (.iaload, 1) := by decide +kernel
theorem dX11_fallsTo_73 : decode cX11_fallsTo 73 = .ok (.iload_n 2, 1) := by decide +kernel
theorem dX11_fallsTo_74 : decode cX11_fallsTo 74 = .ok (.if_icmp .ne 30, 3) := by decide +kernel
theorem dX11_fallsTo_77 : decode cX11_fallsTo 77 = .ok (.iload 7, 2) := by decide +kernel
theorem dX11_fallsTo_79 : decode cX11_fallsTo 79 = .ok (.ifCond .eq 25, 3) := by decide +kernel
theorem dX11_fallsTo_82 : decode cX11_fallsTo 82 = .ok (.iload 4, 2) := by decide +kernel
theorem dX11_fallsTo_84 : decode cX11_fallsTo 84 = .ok (.aload_n 0, 1) := by decide +kernel
theorem dX11_fallsTo_85 : decode cX11_fallsTo 85 = .ok (.getfield 56, 3) := by decide +kernel
theorem dX11_fallsTo_88 : decode cX11_fallsTo 88 = .ok (.aload_n 0, 1) := by decide +kernel
theorem dX11_fallsTo_89 : decode cX11_fallsTo 89 = .ok (.getfield 26, 3) := by decide +kernel
theorem dX11_fallsTo_92 : decode cX11_fallsTo 92 = .ok (.getfield 169, 3) := by decide +kernel
theorem dX11_fallsTo_95 : decode cX11_fallsTo 95 = .ok (.iload 5, 2) := by decide +kernel
theorem dX11_fallsTo_97 : decode cX11_fallsTo 97 = .ok (.iaload, 1) := by decide +kernel
theorem dX11_fallsTo_98 : decode cX11_fallsTo 98 = .ok (.invokevirtual 188, 3) := by decide +kernel
theorem dX11_fallsTo_101 : decode cX11_fallsTo 101 = .ok (.iadd, 1) := by decide +kernel
theorem dX11_fallsTo_102 : decode cX11_fallsTo 102 = .ok (.istore 4, 2) := by decide +kernel
theorem dX11_fallsTo_104 : decode cX11_fallsTo 104 = .ok (.iinc 5 1, 3) := by decide +kernel
theorem dX11_fallsTo_107 : decode cX11_fallsTo 107 = .ok (.goto (-101), 3) := by decide +kernel
theorem dX11_fallsTo_110 : decode cX11_fallsTo 110 = .ok (.iload 4, 2) := by decide +kernel
theorem dX11_fallsTo_112 : decode cX11_fallsTo 112 = .ok (.ireturn, 1) := by decide +kernel
theorem dX11_parts_0 : decode cX11_parts 0 = .ok (.aload_n 0, 1) := by decide +kernel
theorem dX11_parts_1 : decode cX11_parts 1 = .ok (.getfield 19, 3) := by decide +kernel
theorem dX11_parts_4 : decode cX11_parts 4 = .ok (.invokevirtual 284, 3) := by decide +kernel
theorem dX11_parts_7 : decode cX11_parts 7 = .ok (.iconst 0, 1) := by decide +kernel
theorem dX11_parts_8 : decode cX11_parts 8 = .ok (.istore_n 1, 1) := by decide +kernel
theorem dX11_parts_9 : decode cX11_parts 9 = .ok (.iload_n 1, 1) := by decide +kernel
theorem dX11_parts_10 : decode cX11_parts 10 = .ok (.iconst 4, 1) := by decide +kernel
theorem dX11_parts_11 : decode cX11_parts 11 = .ok (.if_icmp .ge 30, 3) := by decide +kernel
theorem dX11_parts_14 : decode cX11_parts 14 = .ok (.aload_n 0, 1) := by decide +kernel
theorem dX11_parts_15 : decode cX11_parts 15 = .ok (.getfield 19, 3) := by decide +kernel
theorem dX11_parts_18 : decode cX11_parts 18 = .ok (.aload_n 0, 1) := by decide +kernel
theorem dX11_parts_19 : decode cX11_parts 19 = .ok (.aload_n 0, 1) := by decide +kernel
theorem dX11_parts_20 : decode cX11_parts 20 = .ok (.getfield 56, 3) := by decide +kernel
theorem dX11_parts_23 : decode cX11_parts 23 = .ok (.getfield 335, 3) := by decide +kernel
theorem dX11_parts_26 : decode cX11_parts 26 = .ok (.iconst 0, 1) := by decide +kernel
theorem dX11_parts_27 : decode cX11_parts 27 = .ok (.iload_n 1, 1) := by decide +kernel
theorem dX11_parts_28 : decode cX11_parts 28 = .ok (.invokevirtual 338, 3) := by decide +kernel
theorem dX11_parts_31 : decode cX11_parts 31 = .ok (.i2l, 1) := by decide +kernel
theorem dX11_parts_32 : decode cX11_parts 32 = .ok (.invokevirtual 290, 3) := by decide +kernel
theorem dX11_parts_35 : decode cX11_parts 35 = .ok (.iinc 1 1, 3) := by decide +kernel
theorem dX11_parts_38 : decode cX11_parts 38 = .ok (.goto (-29), 3) := by decide +kernel
theorem dX11_parts_41 : decode cX11_parts 41 = .ok (.aload_n 0, 1) := by decide +kernel
theorem dX11_parts_42 : decode cX11_parts 42 = .ok (.getfield 19, 3) := by decide +kernel
theorem dX11_parts_45 : decode cX11_parts 45 = .ok (.aload_n 0, 1) := by decide +kernel
theorem dX11_parts_46 : decode cX11_parts 46 = .ok (.aload_n 0, 1) := by decide +kernel
theorem dX11_parts_47 : decode cX11_parts 47 = .ok (.getfield 56, 3) := by decide +kernel
theorem dX11_parts_50 : decode cX11_parts 50 = .ok (.getfield 335, 3) := by decide +kernel
theorem dX11_parts_53 : decode cX11_parts 53 = .ok (.iconst 2, 1) := by decide +kernel
theorem dX11_parts_54 : decode cX11_parts 54 = .ok (.iconst (-1), 1) := by decide +kernel
theorem dX11_parts_55 : decode cX11_parts 55 = .ok (.invokevirtual 338, 3) := by decide +kernel
theorem dX11_parts_58 : decode cX11_parts 58 = .ok (.i2l, 1) := by decide +kernel
theorem dX11_parts_59 : decode cX11_parts 59 = .ok (.invokevirtual 290, 3) := by decide +kernel
theorem dX11_parts_62 : decode cX11_parts 62 = .ok (.aload_n 0, 1) := by decide +kernel
theorem dX11_parts_63 : decode cX11_parts 63 = .ok (.aload_n 0, 1) := by decide +kernel
theorem dX11_parts_64 : decode cX11_parts 64 = .ok (.getfield 56, 3) := by decide +kernel
theorem dX11_parts_67 : decode cX11_parts 67 = .ok (.getfield 335, 3) := by decide +kernel
theorem dX11_parts_70 : decode cX11_parts 70 = .ok (.iconst 1, 1) := by decide +kernel
theorem dX11_parts_71 : decode cX11_parts 71 = .ok (.iconst (-1), 1) := by decide +kernel
theorem dX11_parts_72 : decode cX11_parts 72 = .ok (.invokevirtual 338, 3) := by decide +kernel
theorem dX11_parts_75 : decode cX11_parts 75 = .ok (.ireturn, 1) := by decide +kernel
theorem dX12_haveBy_0 : decode cX12_haveBy 0 = .ok (.iconst 0, 1) := by decide +kernel
theorem dX12_haveBy_1 : decode cX12_haveBy 1 = .ok (.istore 4, 2) := by decide +kernel
theorem dX12_haveBy_3 : decode cX12_haveBy 3 = .ok (.iconst 0, 1) := by decide +kernel
theorem dX12_haveBy_4 : decode cX12_haveBy 4 = .ok (.istore 5, 2) := by decide +kernel
theorem dX12_haveBy_6 : decode cX12_haveBy 6 = .ok (.iload 5, 2) := by decide +kernel
theorem dX12_haveBy_8 : decode cX12_haveBy 8 = .ok (.aload_n 0, 1) := by decide +kernel
theorem dX12_haveBy_9 : decode cX12_haveBy 9 = .ok (.getfield 101, 3) := by decide +kernel
theorem dX12_haveBy_12 : decode cX12_haveBy 12 = .ok (.if_icmp .ge 124, 3) := by decide +kernel
theorem dX12_haveBy_15 : decode cX12_haveBy 15 = .ok (.aload_n 0, 1) := by decide +kernel
theorem dX12_haveBy_16 : decode cX12_haveBy 16 = .ok (.getfield 9, 3) := by decide +kernel
theorem dX12_haveBy_19 : decode cX12_haveBy 19 = .ok (.iload 5, 2) := by decide +kernel
theorem dX12_haveBy_21 : decode cX12_haveBy 21 = .ok (.iaload, 1) := by decide +kernel
theorem dX12_haveBy_22 : decode cX12_haveBy 22 = .ok (.istore 6, 2) := by decide +kernel
theorem dX12_haveBy_24 : decode cX12_haveBy 24 = .ok (.iload 6, 2) := by decide +kernel
theorem dX12_haveBy_26 : decode cX12_haveBy 26 = .ok (.ifCond .ne 33, 3) := by decide +kernel
theorem dX12_haveBy_29 : decode cX12_haveBy 29 = .ok (.iload_n 3, 1) := by decide +kernel
theorem dX12_haveBy_30 : decode cX12_haveBy 30 = .ok (.ifCond .eq 29, 3) := by decide +kernel
theorem dX12_haveBy_33 : decode cX12_haveBy 33 = .ok (.iload_n 3, 1) := by decide +kernel
theorem dX12_haveBy_34 : decode cX12_haveBy 34 = .ok (.iconst 4, 1) := by decide +kernel
theorem dX12_haveBy_35 : decode cX12_haveBy 35 = .ok (.if_icmp .ne 21, 3) := by decide +kernel
theorem dX12_haveBy_38 : decode cX12_haveBy 38 = .ok (.aload_n 0, 1) := by decide +kernel
theorem dX12_haveBy_39 : decode cX12_haveBy 39 = .ok (.aload_n 0, 1) := by decide +kernel
theorem dX12_haveBy_40 : decode cX12_haveBy 40 = .ok (.aload_n 0, 1) := by decide +kernel
theorem dX12_haveBy_41 : decode cX12_haveBy 41 = .ok (.getfield 9, 3) := by decide +kernel
theorem dX12_haveBy_44 : decode cX12_haveBy 44 = .ok (.iload 5, 2) := by decide +kernel
theorem dX12_haveBy_46 : decode cX12_haveBy 46 = .ok (.iconst 0, 1) := by decide +kernel
theorem dX12_haveBy_47 : decode cX12_haveBy 47 = .ok (.invokevirtual 235, 3) := by decide +kernel
theorem dX12_haveBy_50 : decode cX12_haveBy 50 = .ok (.invokevirtual 264, 3) := by decide +kernel
theorem dX12_haveBy_53 : decode cX12_haveBy 53 = .ok (.goto 4, 3) := by decide +kernel
theorem dX12_haveBy_56 : decode cX12_haveBy 56 = .ok (.iload_n 3, 1) := by decide +kernel
theorem dX12_haveBy_57 : decode cX12_haveBy 57 = .ok (.istore 6, 2) := by decide +kernel
theorem dX12_haveBy_59 : decode cX12_haveBy 59 = .ok (.iload 6, 2) := by decide +kernel
theorem dX12_haveBy_61 : decode cX12_haveBy 61 = .ok (.iconst 2, 1) := by decide +kernel
theorem dX12_haveBy_62 : decode cX12_haveBy 62 = .ok (.if_icmp .ge 6, 3) := by decide +kernel
theorem dX12_haveBy_65 : decode cX12_haveBy 65 = .ok (.goto 65, 3) := by decide +kernel
theorem dX12_haveBy_68 : decode cX12_haveBy 68 = .ok (.aload_n 1, 1) := by decide +kernel
theorem dX12_haveBy_69 : decode cX12_haveBy 69 = .ok (.iload 6, 2) := by decide +kernel
theorem dX12_haveBy_71 : decode cX12_haveBy 71 = .ok (.iconst 2, 1) := by decide +kernel
theorem dX12_haveBy_72 : decode cX12_haveBy 72 = .ok (.isub, 1) := by decide +kernel
theorem dX12_haveBy_73 : decode cX12_haveBy 73 = .ok (.iaload, 1) := by decide +kernel
theorem dX12_haveBy_74 : decode cX12_haveBy 74 = .ok (.ifCond .ne 13, 3) := by decide +kernel
theorem dX12_haveBy_77 : decode cX12_haveBy 77 = .ok (.aload_n 0, 1) := by decide +kernel
theorem dX12_haveBy_78 : decode cX12_haveBy 78 = .ok (.getfield 23, 3) := by decide +kernel
theorem dX12_haveBy_81 : decode cX12_haveBy 81 = .ok (.iload 5, 2) := by decide +kernel
theorem dX12_haveBy_83 : decode cX12_haveBy 83 = .ok (.iaload, 1) := by decide +kernel
theorem dX12_haveBy_84 : decode cX12_haveBy 84 = .ok (.goto 18, 3) := by decide +kernel
theorem dX12_haveBy_87 : decode cX12_haveBy 87 = .ok (.aload_n 1, 1) := by decide +kernel
theorem dX12_haveBy_88 : decode cX12_haveBy 88 = .ok (.iload 6, 2) := by decide +kernel
theorem dX12_haveBy_90 : decode cX12_haveBy 90 = .ok (.iconst 2, 1) := by decide +kernel
theorem dX12_haveBy_91 : decode cX12_haveBy 91 = .ok (.isub, 1) := by decide +kernel
theorem dX12_haveBy_92 : decode cX12_haveBy 92 = .ok (.iaload, 1) := by decide +kernel
theorem dX12_haveBy_93 : decode cX12_haveBy 93 = .ok (.iconst 1, 1) := by decide +kernel
theorem dX12_haveBy_94 : decode cX12_haveBy 94 = .ok (.if_icmp .ne 7, 3) := by decide +kernel
theorem dX12_haveBy_97 : decode cX12_haveBy 97 = .ok (.iconst 4, 1) := by decide +kernel
theorem dX12_haveBy_98 : decode cX12_haveBy 98 = .ok (.goto 4, 3) := by decide +kernel
theorem dX12_haveBy_101 : decode cX12_haveBy 101 = .ok (.iconst 5, 1) := by decide +kernel
theorem dX12_haveBy_102 : decode cX12_haveBy 102 = .ok (.istore 7, 2) := by decide +kernel
theorem dX12_haveBy_104 : decode cX12_haveBy 104 = .ok (.iload 4, 2) := by decide +kernel
theorem dX12_haveBy_106 : decode cX12_haveBy 106 = .ok (.iload 7, 2) := by decide +kernel
theorem dX12_haveBy_108 : decode cX12_haveBy 108 = .ok (.iload_n 2, 1) := by decide +kernel
theorem dX12_haveBy_109 : decode cX12_haveBy 109 = .ok (.if_icmp .ne 17, 3) := by decide +kernel
theorem dX12_haveBy_112 : decode cX12_haveBy 112 = .ok (.aload_n 0, 1) := by decide +kernel
theorem dX12_haveBy_113 : decode cX12_haveBy 113 = .ok (.aload_n 0, 1) := by decide +kernel
theorem dX12_haveBy_114 : decode cX12_haveBy 114 = .ok (.getfield 26, 3) := by decide +kernel
theorem dX12_haveBy_117 : decode cX12_haveBy 117 = .ok (.iload 5, 2) := by decide +kernel
theorem dX12_haveBy_119 : decode cX12_haveBy 119 = .ok (.iaload, 1) := by decide +kernel
theorem dX12_haveBy_120 : decode cX12_haveBy 120 = .ok (.invokevirtual 239, 3) := by decide +kernel
theorem dX12_haveBy_123 : decode cX12_haveBy 123 = .ok (.goto 4, 3) := by decide +kernel
theorem dX12_haveBy_126 : decode cX12_haveBy 126 = .ok (.iconst 0, 1) := by decide +kernel
theorem dX12_haveBy_127 : decode cX12_haveBy 127 = .ok (.iadd, 1) := by decide +kernel
theorem dX12_haveBy_128 : decode cX12_haveBy 128 = .ok (.istore 4, 2) := by decide +kernel
theorem dX12_haveBy_130 : decode cX12_haveBy 130 = .ok (.iinc 5 1, 3) := by decide +kernel
theorem dX12_haveBy_133 : decode cX12_haveBy 133 = .ok (.goto (-127), 3) := by decide +kernel
theorem dX12_haveBy_136 : decode cX12_haveBy 136 = .ok (.iload 4, 2) := by decide +kernel
theorem dX12_haveBy_138 : decode cX12_haveBy 138 = .ok (.ireturn, 1) := by decide +kernel
theorem dX12_parts_0 : decode cX12_parts 0 = .ok (.aload_n 0, 1) := by decide +kernel
theorem dX12_parts_1 : decode cX12_parts 1 = .ok (.iconst 0, 1) := by decide +kernel
theorem dX12_parts_2 : decode cX12_parts 2 = .ok (.putfield 95, 3) := by decide +kernel
theorem dX12_parts_5 : decode cX12_parts 5 = .ok (.aload_n 0, 1) := by decide +kernel
theorem dX12_parts_6 : decode cX12_parts 6 = .ok (.iconst 0, 1) := by decide +kernel
theorem dX12_parts_7 : decode cX12_parts 7 = .ok (.putfield 98, 3) := by decide +kernel
theorem dX12_parts_10 : decode cX12_parts 10 = .ok (.iconst 0, 1) := by decide +kernel
theorem dX12_parts_11 : decode cX12_parts 11 = .ok (.istore_n 1, 1) := by decide +kernel
theorem dX12_parts_12 : decode cX12_parts 12 = .ok (.iload_n 1, 1) := by decide +kernel
theorem dX12_parts_13 : decode cX12_parts 13 = .ok (.iconst 4, 1) := by decide +kernel
theorem dX12_parts_14 : decode cX12_parts 14 = .ok (.if_icmp .ge 24, 3) := by decide +kernel
theorem dX12_parts_17 : decode cX12_parts 17 = .ok (.aload_n 0, 1) := by decide +kernel
theorem dX12_parts_18 : decode cX12_parts 18 = .ok (.aload_n 0, 1) := by decide +kernel
theorem dX12_parts_19 : decode cX12_parts 19 = .ok (.aload_n 0, 1) := by decide +kernel
theorem dX12_parts_20 : decode cX12_parts 20 = .ok (.getfield 38, 3) := by decide +kernel
theorem dX12_parts_23 : decode cX12_parts 23 = .ok (.iload_n 1, 1) := by decide +kernel
theorem dX12_parts_24 : decode cX12_parts 24 = .ok (.iconst 0, 1) := by decide +kernel
theorem dX12_parts_25 : decode cX12_parts 25 = .ok (.invokevirtual 342, 3) := by decide +kernel
theorem dX12_parts_28 : decode cX12_parts 28 = .ok (.i2l, 1) := by decide +kernel
theorem dX12_parts_29 : decode cX12_parts 29 = .ok (.invokevirtual 267, 3) := by decide +kernel
theorem dX12_parts_32 : decode cX12_parts 32 = .ok (.iinc 1 1, 3) := by decide +kernel
theorem dX12_parts_35 : decode cX12_parts 35 = .ok (.goto (-23), 3) := by decide +kernel
theorem dX12_parts_38 : decode cX12_parts 38 = .ok (.aload_n 0, 1) := by decide +kernel
theorem dX12_parts_39 : decode cX12_parts 39 = .ok (.aload_n 0, 1) := by decide +kernel
theorem dX12_parts_40 : decode cX12_parts 40 = .ok (.aload_n 0, 1) := by decide +kernel
theorem dX12_parts_41 : decode cX12_parts 41 = .ok (.getfield 38, 3) := by decide +kernel
theorem dX12_parts_44 : decode cX12_parts 44 = .ok (.iconst 5, 1) := by decide +kernel
theorem dX12_parts_45 : decode cX12_parts 45 = .ok (.iconst 0, 1) := by decide +kernel
theorem dX12_parts_46 : decode cX12_parts 46 = .ok (.invokevirtual 342, 3) := by decide +kernel
theorem dX12_parts_49 : decode cX12_parts 49 = .ok (.i2l, 1) := by decide +kernel
theorem dX12_parts_50 : decode cX12_parts 50 = .ok (.invokevirtual 267, 3) := by decide +kernel
theorem dX12_parts_53 : decode cX12_parts 53 = .ok (.aload_n 0, 1) := by decide +kernel
theorem dX12_parts_54 : decode cX12_parts 54 = .ok (.aload_n 0, 1) := by decide +kernel
theorem dX12_parts_55 : decode cX12_parts 55 = .ok (.getfield 38, 3) := by decide +kernel
theorem dX12_parts_58 : decode cX12_parts 58 = .ok (.iconst 4, 1) := by decide +kernel
theorem dX12_parts_59 : decode cX12_parts 59 = .ok (.iconst 0, 1) := by decide +kernel
theorem dX12_parts_60 : decode cX12_parts 60 = .ok (.invokevirtual 342, 3) := by decide +kernel
theorem dX12_parts_63 : decode cX12_parts 63 = .ok (.ireturn, 1) := by decide +kernel
theorem dX11_hopes_0 : decode cX11_hopes 0 = .ok (.iload_n 1, 1) := by decide +kernel
theorem dX11_hopes_1 : decode cX11_hopes 1 = .ok (.ifCond .lt 8, 3) := by decide +kernel
theorem dX11_hopes_4 : decode cX11_hopes 4 = .ok (.iload_n 1, 1) := by decide +kernel
theorem dX11_hopes_5 : decode cX11_hopes 5 = .ok (.iconst 4, 1) := by decide +kernel
theorem dX11_hopes_6 : decode cX11_hopes 6 = .ok (.if_icmp .lt 5, 3) := by decide +kernel
theorem dX11_hopes_9 : decode cX11_hopes 9 = .ok (.iconst (-1), 1) := by decide +kernel
theorem dX11_hopes_10 : decode cX11_hopes 10 = .ok (.ireturn, 1) := by decide +kernel
theorem dX11_hopes_11 : decode cX11_hopes 11 = .ok (.iconst 0, 1) := by decide +kernel
theorem dX11_hopes_12 : decode cX11_hopes 12 = .ok (.istore_n 2, 1) := by decide +kernel
theorem dX11_hopes_13 : decode cX11_hopes 13 = .ok (.iconst 0, 1) := by decide +kernel
theorem dX11_hopes_14 : decode cX11_hopes 14 = .ok (.istore_n 3, 1) := by decide +kernel
theorem dX11_hopes_15 : decode cX11_hopes 15 = .ok (.iconst 0, 1) := by decide +kernel
theorem dX11_hopes_16 : decode cX11_hopes 16 = .ok (.istore 4, 2) := by decide +kernel
theorem dX11_hopes_18 : decode cX11_hopes 18 = .ok (.iconst 0, 1) := by decide +kernel
theorem dX11_hopes_19 : decode cX11_hopes 19 = .ok (.istore 5, 2) := by decide +kernel
theorem dX11_hopes_21 : decode cX11_hopes 21 = .ok (.iload 5, 2) := by decide +kernel
theorem dX11_hopes_23 : decode cX11_hopes 23 = .ok (.aload_n 0, 1) := by decide +kernel
theorem dX11_hopes_24 : decode cX11_hopes 24 = .ok (.getfield 26, 3) := by decide +kernel
theorem dX11_hopes_27 : decode cX11_hopes 27 = .ok (.getfield 119, 3) := by decide +kernel
theorem dX11_hopes_30 : decode cX11_hopes 30 = .ok (.if_icmp .ge 88, 3) := by decide +kernel
theorem dX11_hopes_33 : decode cX11_hopes 33 = .ok (.aload_n 0, 1) := by decide +kernel
theorem dX11_hopes_34 : decode cX11_hopes 34 = .ok (.getfield 65, 3) := by decide +kernel
theorem dX11_hopes_37 : decode cX11_hopes 37 = .ok (.iload 5, 2) := by decide +kernel
theorem dX11_hopes_39 : decode cX11_hopes 39 = .ok (.invokevirtual 261, 3) := by decide +kernel
theorem dX11_hopes_42 : decode cX11_hopes 42 = .ok (.ifCond .eq 70, 3) := by decide +kernel
theorem dX11_hopes_45 : decode cX11_hopes 45 = .ok (.aload_n 0, 1) := by decide +kernel
theorem dX11_hopes_46 : decode cX11_hopes 46 = .ok (.getfield 26, 3) := by decide +kernel
theorem dX11_hopes_49 : decode cX11_hopes 49 = .ok (.getfield 166, 3) := by decide +kernel
theorem dX11_hopes_52 : decode cX11_hopes 52 = .ok (.iload 5, 2) := by decide +kernel
theorem dX11_hopes_54 : decode cX11_hopes 54 = .ok (.iaload, 1) := by decide +kernel
theorem dX11_hopes_55 : decode cX11_hopes 55 = .ok (.iload_n 1, 1) := by decide +kernel
theorem dX11_hopes_56 : decode cX11_hopes 56 = .ok (.if_icmp .ne 56, 3) := by decide +kernel
theorem dX11_hopes_59 : decode cX11_hopes 59 = .ok (.iload_n 2, 1) := by decide +kernel
theorem dX11_hopes_60 : decode cX11_hopes 60 = .ok (.aload_n 0, 1) := by decide +kernel
theorem dX11_hopes_61 : decode cX11_hopes 61 = .ok (.getfield 56, 3) := by decide +kernel
theorem dX11_hopes_64 : decode cX11_hopes 64 = .ok (.iload 5, 2) := by decide +kernel
theorem dX11_hopes_66 : decode cX11_hopes 66 = .ok (.iconst 2, 1) := by decide +kernel
theorem dX11_hopes_67 : decode cX11_hopes 67 = .ok (.iconst 0, 1) := by decide +kernel
theorem dX11_hopes_68 : decode cX11_hopes 68 = .ok (.invokevirtual 342, 3) := by decide +kernel
theorem dX11_hopes_71 : decode cX11_hopes 71 = .ok (.iadd, 1) := by decide +kernel
theorem dX11_hopes_72 : decode cX11_hopes 72 = .ok (.istore_n 2, 1) := by decide +kernel
theorem dX11_hopes_73 : decode cX11_hopes 73 = .ok (.iload_n 3, 1) := by decide +kernel
theorem dX11_hopes_74 : decode cX11_hopes 74 = .ok (.aload_n 0, 1) := by decide +kernel
theorem dX11_hopes_75 : decode cX11_hopes 75 = .ok (.getfield 56, 3) := by decide +kernel
theorem dX11_hopes_78 : decode cX11_hopes 78 = .ok (.iload 5, 2) := by decide +kernel
theorem dX11_hopes_80 : decode cX11_hopes 80 = .ok (.iconst 5, 1) := by decide +kernel
theorem dX11_hopes_81 : decode cX11_hopes 81 = .ok (.iconst 0, 1) := by decide +kernel
theorem dX11_hopes_82 : decode cX11_hopes 82 = .ok (.invokevirtual 342, 3) := by decide +kernel
theorem dX11_hopes_85 : decode cX11_hopes 85 = .ok (.iadd, 1) := by decide +kernel
theorem dX11_hopes_86 : decode cX11_hopes 86 = .ok (.istore_n 3, 1) := by decide +kernel
theorem dX11_hopes_87 : decode cX11_hopes 87 = .ok (.iload 4, 2) := by decide +kernel
theorem dX11_hopes_89 : decode cX11_hopes 89 = .ok (.aload_n 0, 1) := by decide +kernel
theorem dX11_hopes_90 : decode cX11_hopes 90 = .ok (.getfield 56, 3) := by decide +kernel
theorem dX11_hopes_93 : decode cX11_hopes 93 = .ok (.iload 5, 2) := by decide +kernel
theorem dX11_hopes_95 : decode cX11_hopes 95 = .ok (.aload_n 0, 1) := by decide +kernel
theorem dX11_hopes_96 : decode cX11_hopes 96 = .ok (.getfield 65, 3) := by decide +kernel
theorem dX11_hopes_99 : decode cX11_hopes 99 = .ok (.iload 5, 2) := by decide +kernel
theorem dX11_hopes_101 : decode cX11_hopes 101 = .ok (.iconst 0, 1) := by decide +kernel
theorem dX11_hopes_102 : decode cX11_hopes 102 = .ok (.invokevirtual 306, 3) := by decide +kernel
theorem dX11_hopes_105 : decode cX11_hopes 105 = .ok (.iconst 0, 1) := by decide +kernel
theorem dX11_hopes_106 : decode cX11_hopes 106 = .ok (.invokevirtual 342, 3) := by decide +kernel
theorem dX11_hopes_109 : decode cX11_hopes 109 = .ok (.iadd, 1) := by decide +kernel
theorem dX11_hopes_110 : decode cX11_hopes 110 = .ok (.istore 4, 2) := by decide +kernel
theorem dX11_hopes_112 : decode cX11_hopes 112 = .ok (.iinc 5 1, 3) := by decide +kernel
theorem dX11_hopes_115 : decode cX11_hopes 115 = .ok (.goto (-94), 3) := by decide +kernel
theorem dX11_hopes_118 : decode cX11_hopes 118 = .ok (.aload_n 0, 1) := by decide +kernel
theorem dX11_hopes_119 : decode cX11_hopes 119 = .ok (.getfield 19, 3) := by decide +kernel
theorem dX11_hopes_122 : decode cX11_hopes 122 = .ok (.iload_n 3, 1) := by decide +kernel
theorem dX11_hopes_123 : decode cX11_hopes 123 = .ok (.i2l, 1) := by decide +kernel
theorem dX11_hopes_124 : decode cX11_hopes 124 = .ok (.iload 4, 2) := by decide +kernel
theorem dX11_hopes_126 : decode cX11_hopes 126 = .ok (.i2l, 1) := by decide +kernel
theorem dX11_hopes_127 : decode cX11_hopes 127 = .ok (.invokevirtual 244, 3) := by decide +kernel
theorem dX11_hopes_130 : decode cX11_hopes 130 = .ok (.iload_n 2, 1) := by decide +kernel
theorem dX11_hopes_131 : decode cX11_hopes 131 = .ok (.ireturn, 1) := by decide +kernel
theorem dX12_isHeir_0 : decode cX12_isHeir 0 = .ok (.iload_n 0, 1) := by decide +kernel
theorem dX12_isHeir_1 : decode cX12_isHeir 1 = .ok (.iconst 0, 1) := by decide +kernel
theorem dX12_isHeir_2 : decode cX12_isHeir 2 = .ok (.iconst 3, 1) := by decide +kernel
theorem dX12_isHeir_3 : decode cX12_isHeir 3 = .ok (.invokestatic 104, 3) := by decide +kernel
theorem dX12_isHeir_6 : decode cX12_isHeir 6 = .ok (.ireturn, 1) := by decide +kernel
theorem dX12_hopes_0 : decode cX12_hopes 0 = .ok (.aload_n 0, 1) := by decide +kernel
theorem dX12_hopes_1 : decode cX12_hopes 1 = .ok (.iconst 0, 1) := by decide +kernel
theorem dX12_hopes_2 : decode cX12_hopes 2 = .ok (.putfield 95, 3) := by decide +kernel
theorem dX12_hopes_5 : decode cX12_hopes 5 = .ok (.iload_n 1, 1) := by decide +kernel
theorem dX12_hopes_6 : decode cX12_hopes 6 = .ok (.invokestatic 345, 3) := by decide +kernel
theorem dX12_hopes_9 : decode cX12_hopes 9 = .ok (.ifCond .ne 5, 3) := by decide +kernel
theorem dX12_hopes_12 : decode cX12_hopes 12 = .ok (.iconst (-1), 1) := by decide +kernel
theorem dX12_hopes_13 : decode cX12_hopes 13 = .ok (.ireturn, 1) := by decide +kernel
theorem dX12_hopes_14 : decode cX12_hopes 14 = .ok (.aload_n 0, 1) := by decide +kernel
theorem dX12_hopes_15 : decode cX12_hopes 15 = .ok (.aload_n 0, 1) := by decide +kernel
theorem dX12_hopes_16 : decode cX12_hopes 16 = .ok (.getfield 38, 3) := by decide +kernel
theorem dX12_hopes_19 : decode cX12_hopes 19 = .ok (.iload_n 1, 1) := by decide +kernel
theorem dX12_hopes_20 : decode cX12_hopes 20 = .ok (.iconst 0, 1) := by decide +kernel
theorem dX12_hopes_21 : decode cX12_hopes 21 = .ok (.invokevirtual 342, 3) := by decide +kernel
theorem dX12_hopes_24 : decode cX12_hopes 24 = .ok (.istore_n 2, 1) := by decide +kernel
theorem dX12_hopes_25 : decode cX12_hopes 25 = .ok (.aload_n 0, 1) := by decide +kernel
theorem dX12_hopes_26 : decode cX12_hopes 26 = .ok (.iconst 0, 1) := by decide +kernel
theorem dX12_hopes_27 : decode cX12_hopes 27 = .ok (.putfield 98, 3) := by decide +kernel
theorem dX12_hopes_30 : decode cX12_hopes 30 = .ok (.aload_n 0, 1) := by decide +kernel
theorem dX12_hopes_31 : decode cX12_hopes 31 = .ok (.aload_n 0, 1) := by decide +kernel
theorem dX12_hopes_32 : decode cX12_hopes 32 = .ok (.aload_n 0, 1) := by decide +kernel
theorem dX12_hopes_33 : decode cX12_hopes 33 = .ok (.getfield 38, 3) := by decide +kernel
theorem dX12_hopes_36 : decode cX12_hopes 36 = .ok (.iload_n 1, 1) := by decide +kernel
theorem dX12_hopes_37 : decode cX12_hopes 37 = .ok (.iconst 5, 1) := by decide +kernel
theorem dX12_hopes_38 : decode cX12_hopes 38 = .ok (.invokevirtual 342, 3) := by decide +kernel
theorem dX12_hopes_41 : decode cX12_hopes 41 = .ok (.iload_n 2, 1) := by decide +kernel
theorem dX12_hopes_42 : decode cX12_hopes 42 = .ok (.isub, 1) := by decide +kernel
theorem dX12_hopes_43 : decode cX12_hopes 43 = .ok (.i2l, 1) := by decide +kernel
theorem dX12_hopes_44 : decode cX12_hopes 44 = .ok (.invokevirtual 267, 3) := by decide +kernel
theorem dX12_hopes_47 : decode cX12_hopes 47 = .ok (.aload_n 0, 1) := by decide +kernel
theorem dX12_hopes_48 : decode cX12_hopes 48 = .ok (.aload_n 0, 1) := by decide +kernel
theorem dX12_hopes_49 : decode cX12_hopes 49 = .ok (.aload_n 0, 1) := by decide +kernel
theorem dX12_hopes_50 : decode cX12_hopes 50 = .ok (.getfield 38, 3) := by decide +kernel
theorem dX12_hopes_53 : decode cX12_hopes 53 = .ok (.iload_n 1, 1) := by decide +kernel
theorem dX12_hopes_54 : decode cX12_hopes 54 = .ok (.iconst 4, 1) := by decide +kernel
theorem dX12_hopes_55 : decode cX12_hopes 55 = .ok (.invokevirtual 342, 3) := by decide +kernel
theorem dX12_hopes_58 : decode cX12_hopes 58 = .ok (.iload_n 2, 1) := by decide +kernel
theorem dX12_hopes_59 : decode cX12_hopes 59 = .ok (.isub, 1) := by decide +kernel
theorem dX12_hopes_60 : decode cX12_hopes 60 = .ok (.i2l, 1) := by decide +kernel
theorem dX12_hopes_61 : decode cX12_hopes 61 = .ok (.invokevirtual 267, 3) := by decide +kernel
theorem dX12_hopes_64 : decode cX12_hopes 64 = .ok (.aload_n 0, 1) := by decide +kernel
theorem dX12_hopes_65 : decode cX12_hopes 65 = .ok (.aload_n 0, 1) := by decide +kernel
theorem dX12_hopes_66 : decode cX12_hopes 66 = .ok (.getfield 38, 3) := by decide +kernel
theorem dX12_hopes_69 : decode cX12_hopes 69 = .ok (.iload_n 1, 1) := by decide +kernel
theorem dX12_hopes_70 : decode cX12_hopes 70 = .ok (.iconst 2, 1) := by decide +kernel
theorem dX12_hopes_71 : decode cX12_hopes 71 = .ok (.invokevirtual 342, 3) := by decide +kernel
theorem dX12_hopes_74 : decode cX12_hopes 74 = .ok (.iload_n 2, 1) := by decide +kernel
theorem dX12_hopes_75 : decode cX12_hopes 75 = .ok (.isub, 1) := by decide +kernel
theorem dX12_hopes_76 : decode cX12_hopes 76 = .ok (.ireturn, 1) := by decide +kernel
theorem dX11_reading_0 : decode cX11_reading 0 = .ok (.aload_n 0, 1) := by decide +kernel
theorem dX11_reading_1 : decode cX11_reading 1 = .ok (.getfield 56, 3) := by decide +kernel
theorem dX11_reading_4 : decode cX11_reading 4 = .ok (.aload_n 0, 1) := by decide +kernel
theorem dX11_reading_5 : decode cX11_reading 5 = .ok (.getfield 10, 3) := by decide +kernel
theorem dX11_reading_8 : decode cX11_reading 8 = .ok (.invokevirtual 138, 3) := by decide +kernel
theorem dX11_reading_11 : decode cX11_reading 11 = .ok (.istore_n 1, 1) := by decide +kernel
theorem dX11_reading_12 : decode cX11_reading 12 = .ok (.aload_n 0, 1) := by decide +kernel
theorem dX11_reading_13 : decode cX11_reading 13 = .ok (.getfield 10, 3) := by decide +kernel
theorem dX11_reading_16 : decode cX11_reading 16 = .ok (.invokevirtual 116, 3) := by decide +kernel
theorem dX11_reading_19 : decode cX11_reading 19 = .ok (.iload_n 1, 1) := by decide +kernel
theorem dX11_reading_20 : decode cX11_reading 20 = .ok (.ifCond .ge 9, 3) := by decide +kernel
theorem dX11_reading_23 : decode cX11_reading 23 = .ok (.iload_n 1, 1) := by decide +kernel
theorem dX11_reading_24 : decode cX11_reading 24 = .ok (.sipush 9999, 3) := by decide +kernel
theorem dX11_reading_27 : decode cX11_reading 27 = .ok (.isub, 1) := by decide +kernel
theorem dX11_reading_28 : decode cX11_reading 28 = .ok (.ireturn, 1) := by decide +kernel
theorem dX11_reading_29 : decode cX11_reading 29 = .ok (.aload_n 0, 1) := by decide +kernel
theorem dX11_reading_30 : decode cX11_reading 30 = .ok (.aload_n 0, 1) := by decide +kernel
theorem dX11_reading_31 : decode cX11_reading 31 = .ok (.getfield 56, 3) := by decide +kernel
theorem dX11_reading_34 : decode cX11_reading 34 = .ok (.getfield 345, 3) := by decide +kernel
theorem dX11_reading_37 : decode cX11_reading 37 = .ok (.iconst 1, 1) := by decide +kernel
theorem dX11_reading_38 : decode cX11_reading 38 = .ok (.iconst (-1), 1) := by decide +kernel
theorem dX11_reading_39 : decode cX11_reading 39 = .ok (.invokevirtual 338, 3) := by decide +kernel
theorem dX11_reading_42 : decode cX11_reading 42 = .ok (.istore_n 2, 1) := by decide +kernel
theorem dX11_reading_43 : decode cX11_reading 43 = .ok (.aload_n 0, 1) := by decide +kernel
theorem dX11_reading_44 : decode cX11_reading 44 = .ok (.aload_n 0, 1) := by decide +kernel
theorem dX11_reading_45 : decode cX11_reading 45 = .ok (.getfield 56, 3) := by decide +kernel
theorem dX11_reading_48 : decode cX11_reading 48 = .ok (.getfield 335, 3) := by decide +kernel
theorem dX11_reading_51 : decode cX11_reading 51 = .ok (.iconst 1, 1) := by decide +kernel
theorem dX11_reading_52 : decode cX11_reading 52 = .ok (.iconst (-1), 1) := by decide +kernel
theorem dX11_reading_53 : decode cX11_reading 53 = .ok (.invokevirtual 338, 3) := by decide +kernel
theorem dX11_reading_56 : decode cX11_reading 56 = .ok (.istore_n 3, 1) := by decide +kernel
theorem dX11_reading_57 : decode cX11_reading 57 = .ok (.aload_n 0, 1) := by decide +kernel
theorem dX11_reading_58 : decode cX11_reading 58 = .ok (.getfield 19, 3) := by decide +kernel
theorem dX11_reading_61 : decode cX11_reading 61 = .ok (.iload_n 2, 1) := by decide +kernel
theorem dX11_reading_62 : decode cX11_reading 62 = .ok (.i2l, 1) := by decide +kernel
theorem dX11_reading_63 : decode cX11_reading 63 = .ok (.iload_n 3, 1) := by decide +kernel
theorem dX11_reading_64 : decode cX11_reading 64 = .ok (.i2l, 1) := by decide +kernel
theorem dX11_reading_65 : decode cX11_reading 65 = .ok (.invokevirtual 244, 3) := by decide +kernel
theorem dX11_reading_68 : decode cX11_reading 68 = .ok (.iload_n 2, 1) := by decide +kernel
theorem dX11_reading_69 : decode cX11_reading 69 = .ok (.iload_n 3, 1) := by decide +kernel
theorem dX11_reading_70 : decode cX11_reading 70 = .ok (.isub, 1) := by decide +kernel
theorem dX11_reading_71 : decode cX11_reading 71 = .ok (.ireturn, 1) := by decide +kernel
theorem dX12_reading_0 : decode cX12_reading 0 = .ok (.aload_n 0, 1) := by decide +kernel
theorem dX12_reading_1 : decode cX12_reading 1 = .ok (.iconst 0, 1) := by decide +kernel
theorem dX12_reading_2 : decode cX12_reading 2 = .ok (.putfield 95, 3) := by decide +kernel
theorem dX12_reading_5 : decode cX12_reading 5 = .ok (.aload_n 0, 1) := by decide +kernel
theorem dX12_reading_6 : decode cX12_reading 6 = .ok (.invokevirtual 187, 3) := by decide +kernel
theorem dX12_reading_9 : decode cX12_reading 9 = .ok (.ifCond .ne 12, 3) := by decide +kernel
theorem dX12_reading_12 : decode cX12_reading 12 = .ok (.sipush (-10000), 3) := by decide +kernel
theorem dX12_reading_15 : decode cX12_reading 15 = .ok (.aload_n 0, 1) := by decide +kernel
theorem dX12_reading_16 : decode cX12_reading 16 = .ok (.getfield 123, 3) := by decide +kernel
theorem dX12_reading_19 : decode cX12_reading 19 = .ok (.isub, 1) := by decide +kernel
theorem dX12_reading_20 : decode cX12_reading 20 = .ok (.ireturn, 1) := by decide +kernel
theorem dX12_reading_21 : decode cX12_reading 21 = .ok (.iconst 0, 1) := by decide +kernel
theorem dX12_reading_22 : decode cX12_reading 22 = .ok (.istore_n 1, 1) := by decide +kernel
theorem dX12_reading_23 : decode cX12_reading 23 = .ok (.iload_n 1, 1) := by decide +kernel
theorem dX12_reading_24 : decode cX12_reading 24 = .ok (.iconst 4, 1) := by decide +kernel
theorem dX12_reading_25 : decode cX12_reading 25 = .ok (.if_icmp .ge 21, 3) := by decide +kernel
theorem dX12_reading_28 : decode cX12_reading 28 = .ok (.aload_n 0, 1) := by decide +kernel
theorem dX12_reading_29 : decode cX12_reading 29 = .ok (.getfield 83, 3) := by decide +kernel
theorem dX12_reading_32 : decode cX12_reading 32 = .ok (.iload_n 1, 1) := by decide +kernel
theorem dX12_reading_33 : decode cX12_reading 33 = .ok (.aload_n 0, 1) := by decide +kernel
theorem dX12_reading_34 : decode cX12_reading 34 = .ok (.getfield 53, 3) := by decide +kernel
theorem dX12_reading_37 : decode cX12_reading 37 = .ok (.iload_n 1, 1) := by decide +kernel
theorem dX12_reading_38 : decode cX12_reading 38 = .ok (.iaload, 1) := by decide +kernel
theorem dX12_reading_39 : decode cX12_reading 39 = .ok (.iastore, 1) := by decide +kernel
theorem dX12_reading_40 : decode cX12_reading 40 = .ok (.iinc 1 1, 3) := by decide +kernel
theorem dX12_reading_43 : decode cX12_reading 43 = .ok (.goto (-20), 3) := by decide +kernel
theorem dX12_reading_46 : decode cX12_reading 46 = .ok (.aload_n 0, 1) := by decide +kernel
theorem dX12_reading_47 : decode cX12_reading 47 = .ok (.aload_n 0, 1) := by decide +kernel
theorem dX12_reading_48 : decode cX12_reading 48 = .ok (.getfield 83, 3) := by decide +kernel
theorem dX12_reading_51 : decode cX12_reading 51 = .ok (.iconst 4, 1) := by decide +kernel
theorem dX12_reading_52 : decode cX12_reading 52 = .ok (.iconst 0, 1) := by decide +kernel
theorem dX12_reading_53 : decode cX12_reading 53 = .ok (.invokevirtual 342, 3) := by decide +kernel
theorem dX12_reading_56 : decode cX12_reading 56 = .ok (.istore_n 1, 1) := by decide +kernel
theorem dX12_reading_57 : decode cX12_reading 57 = .ok (.aload_n 0, 1) := by decide +kernel
theorem dX12_reading_58 : decode cX12_reading 58 = .ok (.aload_n 0, 1) := by decide +kernel
theorem dX12_reading_59 : decode cX12_reading 59 = .ok (.getfield 38, 3) := by decide +kernel
theorem dX12_reading_62 : decode cX12_reading 62 = .ok (.iconst 4, 1) := by decide +kernel
theorem dX12_reading_63 : decode cX12_reading 63 = .ok (.iconst 0, 1) := by decide +kernel
theorem dX12_reading_64 : decode cX12_reading 64 = .ok (.invokevirtual 342, 3) := by decide +kernel
theorem dX12_reading_67 : decode cX12_reading 67 = .ok (.istore_n 2, 1) := by decide +kernel
theorem dX12_reading_68 : decode cX12_reading 68 = .ok (.aload_n 0, 1) := by decide +kernel
theorem dX12_reading_69 : decode cX12_reading 69 = .ok (.iconst 0, 1) := by decide +kernel
theorem dX12_reading_70 : decode cX12_reading 70 = .ok (.putfield 98, 3) := by decide +kernel
theorem dX12_reading_73 : decode cX12_reading 73 = .ok (.aload_n 0, 1) := by decide +kernel
theorem dX12_reading_74 : decode cX12_reading 74 = .ok (.iload_n 1, 1) := by decide +kernel
theorem dX12_reading_75 : decode cX12_reading 75 = .ok (.i2l, 1) := by decide +kernel
theorem dX12_reading_76 : decode cX12_reading 76 = .ok (.invokevirtual 267, 3) := by decide +kernel
theorem dX12_reading_79 : decode cX12_reading 79 = .ok (.aload_n 0, 1) := by decide +kernel
theorem dX12_reading_80 : decode cX12_reading 80 = .ok (.iload_n 2, 1) := by decide +kernel
theorem dX12_reading_81 : decode cX12_reading 81 = .ok (.i2l, 1) := by decide +kernel
theorem dX12_reading_82 : decode cX12_reading 82 = .ok (.invokevirtual 267, 3) := by decide +kernel
theorem dX12_reading_85 : decode cX12_reading 85 = .ok (.iload_n 1, 1) := by decide +kernel
theorem dX12_reading_86 : decode cX12_reading 86 = .ok (.iload_n 2, 1) := by decide +kernel
theorem dX12_reading_87 : decode cX12_reading 87 = .ok (.isub, 1) := by decide +kernel
theorem dX12_reading_88 : decode cX12_reading 88 = .ok (.ireturn, 1) := by decide +kernel
theorem dX2_changedEndings_0 : decode cX2_changedEndings 0 = .ok (.iconst 0, 1) := by decide +kernel
theorem dX2_changedEndings_1 : decode cX2_changedEndings 1 = .ok (.istore_n 1, 1) := by decide +kernel
theorem dX2_changedEndings_2 : decode cX2_changedEndings 2 = .ok (.iconst 0, 1) := by decide +kernel
theorem dX2_changedEndings_3 : decode cX2_changedEndings 3 = .ok (.istore_n 2, 1) := by decide +kernel
theorem dX2_changedEndings_4 : decode cX2_changedEndings 4 = .ok (.iload_n 2, 1) := by decide +kernel
theorem dX2_changedEndings_5 : decode cX2_changedEndings 5 = .ok (.iconst 4, 1) := by decide +kernel
theorem dX2_changedEndings_6 : decode cX2_changedEndings 6 = .ok (.if_icmp .ge 32, 3) := by decide +kernel
theorem dX2_changedEndings_9 : decode cX2_changedEndings 9 = .ok (.iload_n 1, 1) := by decide +kernel
theorem dX2_changedEndings_10 : decode cX2_changedEndings 10 = .ok (.aload_n 0, 1) := by decide +kernel
theorem dX2_changedEndings_11 : decode cX2_changedEndings 11 = .ok (.getfield 15, 3) := by decide +kernel
theorem dX2_changedEndings_14 : decode cX2_changedEndings 14 = .ok (.iload_n 2, 1) := by decide +kernel
theorem dX2_changedEndings_15 : decode cX2_changedEndings 15 = .ok (.iaload, 1) := by decide +kernel
theorem dX2_changedEndings_16 : decode cX2_changedEndings 16 = .ok (.aload_n 0, 1) := by decide +kernel
theorem dX2_changedEndings_17 : decode cX2_changedEndings 17 = .ok (.getfield 9, 3) := by decide +kernel
theorem dX2_changedEndings_20 : decode cX2_changedEndings 20 = .ok (.iload_n 2, 1) := by decide +kernel
theorem dX2_changedEndings_21 : decode cX2_changedEndings 21 = .ok (.iaload, 1) := by decide +kernel
theorem dX2_changedEndings_22 : decode cX2_changedEndings 22 = .ok (.if_icmp .ne 7, 3) := by decide +kernel
theorem dX2_changedEndings_25 : decode cX2_changedEndings 25 = .ok (.iconst 0, 1) := by decide +kernel
theorem dX2_changedEndings_26 : decode cX2_changedEndings 26 = .ok (.goto 4, 3) := by decide +kernel
theorem dX2_changedEndings_29 : decode cX2_changedEndings 29 = .ok (.iconst 1, 1) := by decide +kernel
theorem dX2_changedEndings_30 : decode cX2_changedEndings 30 = .ok (.iadd, 1) := by decide +kernel
theorem dX2_changedEndings_31 : decode cX2_changedEndings 31 = .ok (.istore_n 1, 1) := by decide +kernel
theorem dX2_changedEndings_32 : decode cX2_changedEndings 32 = .ok (.iinc 2 1, 3) := by decide +kernel
theorem dX2_changedEndings_35 : decode cX2_changedEndings 35 = .ok (.goto (-31), 3) := by decide +kernel
theorem dX2_changedEndings_38 : decode cX2_changedEndings 38 = .ok (.iload_n 1, 1) := by decide +kernel
theorem dX2_changedEndings_39 : decode cX2_changedEndings 39 = .ok (.ireturn, 1) := by decide +kernel
theorem dX2_tellReading_0 : decode cX2_tellReading 0 = .ok (.iload_n 1, 1) := by decide +kernel
theorem dX2_tellReading_1 : decode cX2_tellReading 1 = .ok (.istore_n 2, 1) := by decide +kernel
theorem dX2_tellReading_2 : decode cX2_tellReading 2 = .ok (.iconst 3, 1) := by decide +kernel
theorem dX2_tellReading_3 : decode cX2_tellReading 3 = .ok (.istore_n 3, 1) := by decide +kernel
theorem dX2_tellReading_4 : decode cX2_tellReading 4 = .ok (.iload_n 3, 1) := by decide +kernel
theorem dX2_tellReading_5 : decode cX2_tellReading 5 = .ok (.ifCond .lt 22, 3) := by decide +kernel
theorem dX2_tellReading_8 : decode cX2_tellReading 8 = .ok (.aload_n 0, 1) := by decide +kernel
theorem dX2_tellReading_9 : decode cX2_tellReading 9 = .ok (.getfield 15, 3) := by decide +kernel
theorem dX2_tellReading_12 : decode cX2_tellReading 12 = .ok (.iload_n 3, 1) := by decide +kernel
theorem dX2_tellReading_13 : decode cX2_tellReading 13 = .ok (.iload_n 2, 1) := by decide +kernel
theorem dX2_tellReading_14 : decode cX2_tellReading 14 = .ok (.iconst 3, 1) := by decide +kernel
theorem dX2_tellReading_15 : decode cX2_tellReading 15 = .ok (.irem, 1) := by decide +kernel
theorem dX2_tellReading_16 : decode cX2_tellReading 16 = .ok (.iastore, 1) := by decide +kernel
theorem dX2_tellReading_17 : decode cX2_tellReading 17 = .ok (.iload_n 2, 1) := by decide +kernel
theorem dX2_tellReading_18 : decode cX2_tellReading 18 = .ok (.iconst 3, 1) := by decide +kernel
theorem dX2_tellReading_19 : decode cX2_tellReading 19 = .ok (.idiv, 1) := by decide +kernel
theorem dX2_tellReading_20 : decode cX2_tellReading 20 = .ok (.istore_n 2, 1) := by decide +kernel
theorem dX2_tellReading_21 : decode cX2_tellReading 21 = .ok (.iinc 3 (-1), 3) := by decide +kernel
theorem dX2_tellReading_24 : decode cX2_tellReading 24 = .ok (.goto (-20), 3) := by decide +kernel
theorem dX2_tellReading_27 : decode cX2_tellReading 27 = .ok (.return_, 1) := by decide +kernel
theorem dX11_wants_0 : decode cX11_wants 0 = .ok (.iload_n 1, 1) := by decide +kernel
theorem dX11_wants_1 : decode cX11_wants 1 = .ok (.ifCond .lt 8, 3) := by decide +kernel
theorem dX11_wants_4 : decode cX11_wants 4 = .ok (.iload_n 1, 1) := by decide +kernel
theorem dX11_wants_5 : decode cX11_wants 5 = .ok (.iconst 4, 1) := by decide +kernel
theorem dX11_wants_6 : decode cX11_wants 6 = .ok (.if_icmp .lt 5, 3) := by decide +kernel
theorem dX11_wants_9 : decode cX11_wants 9 = .ok (.iconst (-1), 1) := by decide +kernel
theorem dX11_wants_10 : decode cX11_wants 10 = .ok (.ireturn, 1) := by decide +kernel
theorem dX11_wants_11 : decode cX11_wants 11 = .ok (.iconst 0, 1) := by decide +kernel
theorem dX11_wants_12 : decode cX11_wants 12 = .ok (.istore_n 2, 1) := by decide +kernel
theorem dX11_wants_13 : decode cX11_wants 13 = .ok (.iconst (-1), 1) := by decide +kernel
theorem dX11_wants_14 : decode cX11_wants 14 = .ok (.istore_n 3, 1) := by decide +kernel
theorem dX11_wants_15 : decode cX11_wants 15 = .ok (.iconst 0, 1) := by decide +kernel
theorem dX11_wants_16 : decode cX11_wants 16 = .ok (.istore 4, 2) := by decide +kernel
theorem dX11_wants_18 : decode cX11_wants 18 = .ok (.iconst 0, 1) := by decide +kernel
theorem dX11_wants_19 : decode cX11_wants 19 = .ok (.istore 5, 2) := by decide +kernel
theorem dX11_wants_21 : decode cX11_wants 21 = .ok (.iload 5, 2) := by decide +kernel
theorem dX11_wants_23 : decode cX11_wants 23 = .ok (.bipush 81, 2) := by decide +kernel
theorem dX11_wants_25 : decode cX11_wants 25 = .ok (.if_icmp .ge 71, 3) := by decide +kernel
theorem dX11_wants_28 : decode cX11_wants 28 = .ok (.aload_n 0, 1) := by decide +kernel
theorem dX11_wants_29 : decode cX11_wants 29 = .ok (.getfield 56, 3) := by decide +kernel
theorem dX11_wants_32 : decode cX11_wants 32 = .ok (.iload 5, 2) := by decide +kernel
theorem dX11_wants_34 : decode cX11_wants 34 = .ok (.invokevirtual 348, 3) := by decide +kernel
theorem dX11_wants_37 : decode cX11_wants 37 = .ok (.aload_n 0, 1) := by decide +kernel
theorem dX11_wants_38 : decode cX11_wants 38 = .ok (.aload_n 0, 1) := by decide +kernel
theorem dX11_wants_39 : decode cX11_wants 39 = .ok (.getfield 56, 3) := by decide +kernel
theorem dX11_wants_42 : decode cX11_wants 42 = .ok (.getfield 345, 3) := by decide +kernel
theorem dX11_wants_45 : decode cX11_wants 45 = .ok (.iconst 0, 1) := by decide +kernel
theorem dX11_wants_46 : decode cX11_wants 46 = .ok (.iload_n 1, 1) := by decide +kernel
theorem dX11_wants_47 : decode cX11_wants 47 = .ok (.invokevirtual 338, 3) := by decide +kernel
theorem dX11_wants_50 : decode cX11_wants 50 = .ok (.istore 6, 2) := by decide +kernel
theorem dX11_wants_52 : decode cX11_wants 52 = .ok (.aload_n 0, 1) := by decide +kernel
theorem dX11_wants_53 : decode cX11_wants 53 = .ok (.getfield 56, 3) := by decide +kernel
theorem dX11_wants_56 : decode cX11_wants 56 = .ok (.invokevirtual 351, 3) := by decide +kernel
theorem dX11_wants_59 : decode cX11_wants 59 = .ok (.istore 7, 2) := by decide +kernel
theorem dX11_wants_61 : decode cX11_wants 61 = .ok (.iload 6, 2) := by decide +kernel
theorem dX11_wants_63 : decode cX11_wants 63 = .ok (.iload_n 3, 1) := by decide +kernel
theorem dX11_wants_64 : decode cX11_wants 64 = .ok (.if_icmp .gt 16, 3) := by decide +kernel
theorem dX11_wants_67 : decode cX11_wants 67 = .ok (.iload 6, 2) := by decide +kernel
theorem dX11_wants_69 : decode cX11_wants 69 = .ok (.iload_n 3, 1) := by decide +kernel
theorem dX11_wants_70 : decode cX11_wants 70 = .ok (.if_icmp .ne 20, 3) := by decide +kernel
theorem dX11_wants_73 : decode cX11_wants 73 = .ok (.iload 7, 2) := by decide +kernel
theorem dX11_wants_75 : decode cX11_wants 75 = .ok (.iload 4, 2) := by decide +kernel
theorem dX11_wants_77 : decode cX11_wants 77 = .ok (.if_icmp .ge 13, 3) := by decide +kernel
theorem dX11_wants_80 : decode cX11_wants 80 = .ok (.iload 5, 2) := by decide +kernel
theorem dX11_wants_82 : decode cX11_wants 82 = .ok (.istore_n 2, 1) := by decide +kernel
theorem dX11_wants_83 : decode cX11_wants 83 = .ok (.iload 6, 2) := by decide +kernel
theorem dX11_wants_85 : decode cX11_wants 85 = .ok (.istore_n 3, 1) := by decide +kernel
theorem dX11_wants_86 : decode cX11_wants 86 = .ok (.iload 7, 2) := by decide +kernel
theorem dX11_wants_88 : decode cX11_wants 88 = .ok (.istore 4, 2) := by decide +kernel
theorem dX11_wants_90 : decode cX11_wants 90 = .ok (.iinc 5 1, 3) := by decide +kernel
theorem dX11_wants_93 : decode cX11_wants 93 = .ok (.goto (-72), 3) := by decide +kernel
theorem dX11_wants_96 : decode cX11_wants 96 = .ok (.aload_n 0, 1) := by decide +kernel
theorem dX11_wants_97 : decode cX11_wants 97 = .ok (.getfield 19, 3) := by decide +kernel
theorem dX11_wants_100 : decode cX11_wants 100 = .ok (.iload_n 3, 1) := by decide +kernel
theorem dX11_wants_101 : decode cX11_wants 101 = .ok (.i2l, 1) := by decide +kernel
theorem dX11_wants_102 : decode cX11_wants 102 = .ok (.aload_n 0, 1) := by decide +kernel
theorem dX11_wants_103 : decode cX11_wants 103 = .ok (.aload_n 0, 1) := by decide +kernel
theorem dX11_wants_104 : decode cX11_wants 104 = .ok (.getfield 56, 3) := by decide +kernel
theorem dX11_wants_107 : decode cX11_wants 107 = .ok (.getfield 335, 3) := by decide +kernel
theorem dX11_wants_110 : decode cX11_wants 110 = .ok (.iconst 0, 1) := by decide +kernel
theorem dX11_wants_111 : decode cX11_wants 111 = .ok (.iload_n 1, 1) := by decide +kernel
theorem dX11_wants_112 : decode cX11_wants 112 = .ok (.invokevirtual 338, 3) := by decide +kernel
theorem dX11_wants_115 : decode cX11_wants 115 = .ok (.i2l, 1) := by decide +kernel
theorem dX11_wants_116 : decode cX11_wants 116 = .ok (.invokevirtual 244, 3) := by decide +kernel
theorem dX11_wants_119 : decode cX11_wants 119 = .ok (.iload_n 2, 1) := by decide +kernel
theorem dX11_wants_120 : decode cX11_wants 120 = .ok (.ireturn, 1) := by decide +kernel
theorem dX12_wants_0 : decode cX12_wants 0 = .ok (.aload_n 0, 1) := by decide +kernel
theorem dX12_wants_1 : decode cX12_wants 1 = .ok (.iconst 0, 1) := by decide +kernel
theorem dX12_wants_2 : decode cX12_wants 2 = .ok (.putfield 95, 3) := by decide +kernel
theorem dX12_wants_5 : decode cX12_wants 5 = .ok (.iload_n 1, 1) := by decide +kernel
theorem dX12_wants_6 : decode cX12_wants 6 = .ok (.invokestatic 345, 3) := by decide +kernel
theorem dX12_wants_9 : decode cX12_wants 9 = .ok (.ifCond .ne 5, 3) := by decide +kernel
theorem dX12_wants_12 : decode cX12_wants 12 = .ok (.iconst (-1), 1) := by decide +kernel
theorem dX12_wants_13 : decode cX12_wants 13 = .ok (.ireturn, 1) := by decide +kernel
theorem dX12_wants_14 : decode cX12_wants 14 = .ok (.iconst (-1), 1) := by decide +kernel
theorem dX12_wants_15 : decode cX12_wants 15 = .ok (.istore_n 2, 1) := by decide +kernel
theorem dX12_wants_16 : decode cX12_wants 16 = .ok (.iconst (-1), 1) := by decide +kernel
theorem dX12_wants_17 : decode cX12_wants 17 = .ok (.istore_n 3, 1) := by decide +kernel
theorem dX12_wants_18 : decode cX12_wants 18 = .ok (.iconst 0, 1) := by decide +kernel
theorem dX12_wants_19 : decode cX12_wants 19 = .ok (.istore 4, 2) := by decide +kernel
theorem dX12_wants_21 : decode cX12_wants 21 = .ok (.iconst 0, 1) := by decide +kernel
theorem dX12_wants_22 : decode cX12_wants 22 = .ok (.istore 5, 2) := by decide +kernel
theorem dX12_wants_24 : decode cX12_wants 24 = .ok (.iload 5, 2) := by decide +kernel
theorem dX12_wants_26 : decode cX12_wants 26 = .ok (.bipush 81, 2) := by decide +kernel
theorem dX12_wants_28 : decode cX12_wants 28 = .ok (.if_icmp .ge 118, 3) := by decide +kernel
theorem dX12_wants_31 : decode cX12_wants 31 = .ok (.iconst 0, 1) := by decide +kernel
theorem dX12_wants_32 : decode cX12_wants 32 = .ok (.istore 6, 2) := by decide +kernel
theorem dX12_wants_34 : decode cX12_wants 34 = .ok (.iload 5, 2) := by decide +kernel
theorem dX12_wants_36 : decode cX12_wants 36 = .ok (.istore 7, 2) := by decide +kernel
theorem dX12_wants_38 : decode cX12_wants 38 = .ok (.iconst 3, 1) := by decide +kernel
theorem dX12_wants_39 : decode cX12_wants 39 = .ok (.istore 8, 2) := by decide +kernel
theorem dX12_wants_41 : decode cX12_wants 41 = .ok (.iload 8, 2) := by decide +kernel
theorem dX12_wants_43 : decode cX12_wants 43 = .ok (.ifCond .lt 53, 3) := by decide +kernel
theorem dX12_wants_46 : decode cX12_wants 46 = .ok (.aload_n 0, 1) := by decide +kernel
theorem dX12_wants_47 : decode cX12_wants 47 = .ok (.getfield 83, 3) := by decide +kernel
theorem dX12_wants_50 : decode cX12_wants 50 = .ok (.iload 8, 2) := by decide +kernel
theorem dX12_wants_52 : decode cX12_wants 52 = .ok (.iload 7, 2) := by decide +kernel
theorem dX12_wants_54 : decode cX12_wants 54 = .ok (.iconst 3, 1) := by decide +kernel
theorem dX12_wants_55 : decode cX12_wants 55 = .ok (.irem, 1) := by decide +kernel
theorem dX12_wants_56 : decode cX12_wants 56 = .ok (.iastore, 1) := by decide +kernel
theorem dX12_wants_57 : decode cX12_wants 57 = .ok (.iload 7, 2) := by decide +kernel
theorem dX12_wants_59 : decode cX12_wants 59 = .ok (.iconst 3, 1) := by decide +kernel
theorem dX12_wants_60 : decode cX12_wants 60 = .ok (.idiv, 1) := by decide +kernel
theorem dX12_wants_61 : decode cX12_wants 61 = .ok (.istore 7, 2) := by decide +kernel
theorem dX12_wants_63 : decode cX12_wants 63 = .ok (.iload 6, 2) := by decide +kernel
theorem dX12_wants_65 : decode cX12_wants 65 = .ok (.aload_n 0, 1) := by decide +kernel
theorem dX12_wants_66 : decode cX12_wants 66 = .ok (.getfield 83, 3) := by decide +kernel
theorem dX12_wants_69 : decode cX12_wants 69 = .ok (.iload 8, 2) := by decide +kernel
theorem dX12_wants_71 : decode cX12_wants 71 = .ok (.iaload, 1) := by decide +kernel
theorem dX12_wants_72 : decode cX12_wants 72 = .ok (.aload_n 0, 1) := by decide +kernel
theorem dX12_wants_73 : decode cX12_wants 73 = .ok (.getfield 38, 3) := by decide +kernel
theorem dX12_wants_76 : decode cX12_wants 76 = .ok (.iload 8, 2) := by decide +kernel
theorem dX12_wants_78 : decode cX12_wants 78 = .ok (.iaload, 1) := by decide +kernel
theorem dX12_wants_79 : decode cX12_wants 79 = .ok (.if_icmp .ne 7, 3) := by decide +kernel
theorem dX12_wants_82 : decode cX12_wants 82 = .ok (.iconst 0, 1) := by decide +kernel
theorem dX12_wants_83 : decode cX12_wants 83 = .ok (.goto 4, 3) := by decide +kernel
theorem dX12_wants_86 : decode cX12_wants 86 = .ok (.iconst 1, 1) := by decide +kernel
theorem dX12_wants_87 : decode cX12_wants 87 = .ok (.iadd, 1) := by decide +kernel
theorem dX12_wants_88 : decode cX12_wants 88 = .ok (.istore 6, 2) := by decide +kernel
theorem dX12_wants_90 : decode cX12_wants 90 = .ok (.iinc 8 (-1), 3) := by decide +kernel
theorem dX12_wants_93 : decode cX12_wants 93 = .ok (.goto (-52), 3) := by decide +kernel
theorem dX12_wants_96 : decode cX12_wants 96 = .ok (.aload_n 0, 1) := by decide +kernel
theorem dX12_wants_97 : decode cX12_wants 97 = .ok (.aload_n 0, 1) := by decide +kernel
theorem dX12_wants_98 : decode cX12_wants 98 = .ok (.getfield 83, 3) := by decide +kernel
theorem dX12_wants_101 : decode cX12_wants 101 = .ok (.iload_n 1, 1) := by decide +kernel
theorem dX12_wants_102 : decode cX12_wants 102 = .ok (.iconst 0, 1) := by decide +kernel
theorem dX12_wants_103 : decode cX12_wants 103 = .ok (.invokevirtual 342, 3) := by decide +kernel
theorem dX12_wants_106 : decode cX12_wants 106 = .ok (.istore 8, 2) := by decide +kernel
theorem dX12_wants_108 : decode cX12_wants 108 = .ok (.iload 8, 2) := by decide +kernel
theorem dX12_wants_110 : decode cX12_wants 110 = .ok (.iload_n 3, 1) := by decide +kernel
theorem dX12_wants_111 : decode cX12_wants 111 = .ok (.if_icmp .lt 29, 3) := by decide +kernel
theorem dX12_wants_114 : decode cX12_wants 114 = .ok (.iload 8, 2) := by decide +kernel
theorem dX12_wants_116 : decode cX12_wants 116 = .ok (.iload_n 3, 1) := by decide +kernel
theorem dX12_wants_117 : decode cX12_wants 117 = .ok (.if_icmp .ne 13, 3) := by decide +kernel
theorem dX12_wants_120 : decode cX12_wants 120 = .ok (.iload 6, 2) := by decide +kernel
theorem dX12_wants_122 : decode cX12_wants 122 = .ok (.iload 4, 2) := by decide +kernel
theorem dX12_wants_124 : decode cX12_wants 124 = .ok (.if_icmp .lt 6, 3) := by decide +kernel
theorem dX12_wants_127 : decode cX12_wants 127 = .ok (.goto 13, 3) := by decide +kernel
theorem dX12_wants_130 : decode cX12_wants 130 = .ok (.iload 5, 2) := by decide +kernel
theorem dX12_wants_132 : decode cX12_wants 132 = .ok (.istore_n 2, 1) := by decide +kernel
theorem dX12_wants_133 : decode cX12_wants 133 = .ok (.iload 8, 2) := by decide +kernel
theorem dX12_wants_135 : decode cX12_wants 135 = .ok (.istore_n 3, 1) := by decide +kernel
theorem dX12_wants_136 : decode cX12_wants 136 = .ok (.iload 6, 2) := by decide +kernel
theorem dX12_wants_138 : decode cX12_wants 138 = .ok (.istore 4, 2) := by decide +kernel
theorem dX12_wants_140 : decode cX12_wants 140 = .ok (.iinc 5 1, 3) := by decide +kernel
theorem dX12_wants_143 : decode cX12_wants 143 = .ok (.goto (-119), 3) := by decide +kernel
theorem dX12_wants_146 : decode cX12_wants 146 = .ok (.aload_n 0, 1) := by decide +kernel
theorem dX12_wants_147 : decode cX12_wants 147 = .ok (.iconst 0, 1) := by decide +kernel
theorem dX12_wants_148 : decode cX12_wants 148 = .ok (.putfield 98, 3) := by decide +kernel
theorem dX12_wants_151 : decode cX12_wants 151 = .ok (.aload_n 0, 1) := by decide +kernel
theorem dX12_wants_152 : decode cX12_wants 152 = .ok (.iload_n 3, 1) := by decide +kernel
theorem dX12_wants_153 : decode cX12_wants 153 = .ok (.i2l, 1) := by decide +kernel
theorem dX12_wants_154 : decode cX12_wants 154 = .ok (.invokevirtual 267, 3) := by decide +kernel
theorem dX12_wants_157 : decode cX12_wants 157 = .ok (.aload_n 0, 1) := by decide +kernel
theorem dX12_wants_158 : decode cX12_wants 158 = .ok (.aload_n 0, 1) := by decide +kernel
theorem dX12_wants_159 : decode cX12_wants 159 = .ok (.aload_n 0, 1) := by decide +kernel
theorem dX12_wants_160 : decode cX12_wants 160 = .ok (.getfield 38, 3) := by decide +kernel
theorem dX12_wants_163 : decode cX12_wants 163 = .ok (.iload_n 1, 1) := by decide +kernel
theorem dX12_wants_164 : decode cX12_wants 164 = .ok (.iconst 0, 1) := by decide +kernel
theorem dX12_wants_165 : decode cX12_wants 165 = .ok (.invokevirtual 342, 3) := by decide +kernel
theorem dX12_wants_168 : decode cX12_wants 168 = .ok (.i2l, 1) := by decide +kernel
theorem dX12_wants_169 : decode cX12_wants 169 = .ok (.invokevirtual 267, 3) := by decide +kernel
theorem dX12_wants_172 : decode cX12_wants 172 = .ok (.iload_n 2, 1) := by decide +kernel
theorem dX12_wants_173 : decode cX12_wants 173 = .ok (.ireturn, 1) := by decide +kernel
theorem dX11_commonDivisor_0 : decode cX11_commonDivisor 0 = .ok (.lload_n 0, 1) := by decide +kernel
theorem dX11_commonDivisor_1 : decode cX11_commonDivisor 1 = .ok (.lstore 4, 2) := by decide +kernel
theorem dX11_commonDivisor_3 : decode cX11_commonDivisor 3 = .ok (.lload_n 2, 1) := by decide +kernel
theorem dX11_commonDivisor_4 : decode cX11_commonDivisor 4 = .ok (.lstore 6, 2) := by decide +kernel
theorem dX11_commonDivisor_6 : decode cX11_commonDivisor 6 = .ok (.iconst 0, 1) := by decide +kernel
theorem dX11_commonDivisor_7 : decode cX11_commonDivisor 7 = .ok (.istore 8, 2) := by decide +kernel
theorem dX11_commonDivisor_9 : decode cX11_commonDivisor 9 = .ok (.iload 8, 2) := by decide +kernel
theorem dX11_commonDivisor_11 : decode cX11_commonDivisor 11 = .ok (.sipush 200, 3) := by decide +kernel
theorem dX11_commonDivisor_14 : decode cX11_commonDivisor 14 = .ok (.if_icmp .ge 31, 3) := by decide +kernel
theorem dX11_commonDivisor_17 : decode cX11_commonDivisor 17 = .ok (.lload 6, 2) := by decide +kernel
theorem dX11_commonDivisor_19 : decode cX11_commonDivisor 19 = .ok (.lconst 0, 1) := by decide +kernel
theorem dX11_commonDivisor_20 : decode cX11_commonDivisor 20 = .ok (.lcmp, 1) := by decide +kernel
theorem dX11_commonDivisor_21 : decode cX11_commonDivisor 21 = .ok (.ifCond .eq 24, 3) := by decide +kernel
theorem dX11_commonDivisor_24 : decode cX11_commonDivisor 24 = .ok (.lload 4, 2) := by decide +kernel
theorem dX11_commonDivisor_26 : decode cX11_commonDivisor 26 = .ok (.lload 6, 2) := by decide +kernel
theorem dX11_commonDivisor_28 : decode cX11_commonDivisor 28 = .ok (.lrem, 1) := by decide +kernel
theorem dX11_commonDivisor_29 : decode cX11_commonDivisor 29 = .ok (.lstore 9, 2) := by decide +kernel
theorem dX11_commonDivisor_31 : decode cX11_commonDivisor 31 = .ok (.lload 6, 2) := by decide +kernel
theorem dX11_commonDivisor_33 : decode cX11_commonDivisor 33 = .ok (.lstore 4, 2) := by decide +kernel
theorem dX11_commonDivisor_35 : decode cX11_commonDivisor 35 = .ok (.lload 9, 2) := by decide +kernel
theorem dX11_commonDivisor_37 : decode cX11_commonDivisor 37 = .ok (.lstore 6, 2) := by decide +kernel
theorem dX11_commonDivisor_39 : decode cX11_commonDivisor 39 = .ok (.iinc 8 1, 3) := by decide +kernel
theorem dX11_commonDivisor_42 : decode cX11_commonDivisor 42 = .ok (.goto (-33), 3) := by decide +kernel
theorem dX11_commonDivisor_45 : decode cX11_commonDivisor 45 = .ok (.lload 4, 2) := by decide +kernel
theorem dX11_commonDivisor_47 : decode cX11_commonDivisor 47 = .ok (.lreturn, 1) := by decide +kernel
theorem dX11_isTenths_0 : decode cX11_isTenths 0 = .ok (.iload_n 0, 1) := by decide +kernel
theorem dX11_isTenths_1 : decode cX11_isTenths 1 = .ok (.ifCond .lt 13, 3) := by decide +kernel
theorem dX11_isTenths_4 : decode cX11_isTenths 4 = .ok (.iload_n 0, 1) := by decide +kernel
theorem dX11_isTenths_5 : decode cX11_isTenths 5 = .ok (.bipush 10, 2) := by decide +kernel
theorem dX11_isTenths_7 : decode cX11_isTenths 7 = .ok (.if_icmp .gt 7, 3) := by decide +kernel
theorem dX11_isTenths_10 : decode cX11_isTenths 10 = .ok (.iconst 1, 1) := by decide +kernel
theorem dX11_isTenths_11 : decode cX11_isTenths 11 = .ok (.goto 4, 3) := by decide +kernel
theorem dX11_isTenths_14 : decode cX11_isTenths 14 = .ok (.iconst 0, 1) := by decide +kernel
theorem dX11_isTenths_15 : decode cX11_isTenths 15 = .ok (.ireturn, 1) := by decide +kernel
theorem dX11_power_0 : decode cX11_power 0 = .ok (.lconst 1, 1) := by decide +kernel
theorem dX11_power_1 : decode cX11_power 1 = .ok (.lstore_n 2, 1) := by decide +kernel
theorem dX11_power_2 : decode cX11_power 2 = .ok (.iconst 0, 1) := by decide +kernel
theorem dX11_power_3 : decode cX11_power 3 = .ok (.istore 4, 2) := by decide +kernel
theorem dX11_power_5 : decode cX11_power 5 = .ok (.iload 4, 2) := by decide +kernel
theorem dX11_power_7 : decode cX11_power 7 = .ok (.iload_n 1, 1) := by decide +kernel
theorem dX11_power_8 : decode cX11_power 8 = .ok (.if_icmp .ge 14, 3) := by decide +kernel
theorem dX11_power_11 : decode cX11_power 11 = .ok (.lload_n 2, 1) := by decide +kernel
theorem dX11_power_12 : decode cX11_power 12 = .ok (.iload_n 0, 1) := by decide +kernel
theorem dX11_power_13 : decode cX11_power 13 = .ok (.i2l, 1) := by decide +kernel
theorem dX11_power_14 : decode cX11_power 14 = .ok (.lmul, 1) := by decide +kernel
theorem dX11_power_15 : decode cX11_power 15 = .ok (.lstore_n 2, 1) := by decide +kernel
theorem dX11_power_16 : decode cX11_power 16 = .ok (.iinc 4 1, 3) := by decide +kernel
theorem dX11_power_19 : decode cX11_power 19 = .ok (.goto (-14), 3) := by decide +kernel
theorem dX11_power_22 : decode cX11_power 22 = .ok (.lload_n 2, 1) := by decide +kernel
theorem dX11_power_23 : decode cX11_power 23 = .ok (.lreturn, 1) := by decide +kernel
theorem dX11_likelyDumb_0 : decode cX11_likelyDumb 0 = .ok (.iload_n 0, 1) := by decide +kernel
theorem dX11_likelyDumb_1 : decode cX11_likelyDumb 1 = .ok (.i2l, 1) := by decide +kernel
theorem dX11_likelyDumb_2 : decode cX11_likelyDumb 2 = .ok (.bipush 10, 2) := by decide +kernel
theorem dX11_likelyDumb_4 : decode cX11_likelyDumb 4 = .ok (.iload_n 1, 1) := by decide +kernel
theorem dX11_likelyDumb_5 : decode cX11_likelyDumb 5 = .ok (.invokestatic 427, 3) := by decide +kernel
theorem dX11_likelyDumb_8 : decode cX11_likelyDumb 8 = .ok (.lmul, 1) := by decide +kernel
theorem dX11_likelyDumb_9 : decode cX11_likelyDumb 9 = .ok (.lreturn, 1) := by decide +kernel
theorem dX11_likelyMute_0 : decode cX11_likelyMute 0 = .ok (.iload_n 0, 1) := by decide +kernel
theorem dX11_likelyMute_1 : decode cX11_likelyMute 1 = .ok (.iload_n 2, 1) := by decide +kernel
theorem dX11_likelyMute_2 : decode cX11_likelyMute 2 = .ok (.invokestatic 357, 3) := by decide +kernel
theorem dX11_likelyMute_5 : decode cX11_likelyMute 5 = .ok (.bipush 10, 2) := by decide +kernel
theorem dX11_likelyMute_7 : decode cX11_likelyMute 7 = .ok (.iload_n 0, 1) := by decide +kernel
theorem dX11_likelyMute_8 : decode cX11_likelyMute 8 = .ok (.isub, 1) := by decide +kernel
theorem dX11_likelyMute_9 : decode cX11_likelyMute 9 = .ok (.i2l, 1) := by decide +kernel
theorem dX11_likelyMute_10 : decode cX11_likelyMute 10 = .ok (.bipush 10, 2) := by decide +kernel
theorem dX11_likelyMute_12 : decode cX11_likelyMute 12 = .ok (.iload_n 1, 1) := by decide +kernel
theorem dX11_likelyMute_13 : decode cX11_likelyMute 13 = .ok (.isub, 1) := by decide +kernel
theorem dX11_likelyMute_14 : decode cX11_likelyMute 14 = .ok (.iload_n 2, 1) := by decide +kernel
theorem dX11_likelyMute_15 : decode cX11_likelyMute 15 = .ok (.invokestatic 427, 3) := by decide +kernel
theorem dX11_likelyMute_18 : decode cX11_likelyMute 18 = .ok (.lmul, 1) := by decide +kernel
theorem dX11_likelyMute_19 : decode cX11_likelyMute 19 = .ok (.ladd, 1) := by decide +kernel
theorem dX11_likelyMute_20 : decode cX11_likelyMute 20 = .ok (.lreturn, 1) := by decide +kernel
theorem dX11_dumb_0 : decode cX11_dumb 0 = .ok (.iload_n 1, 1) := by decide +kernel
theorem dX11_dumb_1 : decode cX11_dumb 1 = .ok (.invokestatic 354, 3) := by decide +kernel
theorem dX11_dumb_4 : decode cX11_dumb 4 = .ok (.ifCond .eq 20, 3) := by decide +kernel
theorem dX11_dumb_7 : decode cX11_dumb 7 = .ok (.iload_n 2, 1) := by decide +kernel
theorem dX11_dumb_8 : decode cX11_dumb 8 = .ok (.invokestatic 354, 3) := by decide +kernel
theorem dX11_dumb_11 : decode cX11_dumb 11 = .ok (.ifCond .eq 13, 3) := by decide +kernel
theorem dX11_dumb_14 : decode cX11_dumb 14 = .ok (.iload_n 3, 1) := by decide +kernel
theorem dX11_dumb_15 : decode cX11_dumb 15 = .ok (.ifCond .lt 9, 3) := by decide +kernel
theorem dX11_dumb_18 : decode cX11_dumb 18 = .ok (.iload_n 3, 1) := by decide +kernel
theorem dX11_dumb_19 : decode cX11_dumb 19 = .ok (.bipush 12, 2) := by decide +kernel
theorem dX11_dumb_21 : decode cX11_dumb 21 = .ok (.if_icmp .le 5, 3) := by decide +kernel
theorem dX11_dumb_24 : decode cX11_dumb 24 = .ok (.iconst (-1), 1) := by decide +kernel
theorem dX11_dumb_25 : decode cX11_dumb 25 = .ok (.ireturn, 1) := by decide +kernel
theorem dX11_dumb_26 : decode cX11_dumb 26 = .ok (.iload_n 1, 1) := by decide +kernel
theorem dX11_dumb_27 : decode cX11_dumb 27 = .ok (.iload_n 3, 1) := by decide +kernel
theorem dX11_dumb_28 : decode cX11_dumb 28 = .ok (.invokestatic 357, 3) := by decide +kernel
theorem dX11_dumb_31 : decode cX11_dumb 31 = .ok (.lstore 4, 2) := by decide +kernel
theorem dX11_dumb_33 : decode cX11_dumb 33 = .ok (.iload_n 1, 1) := by decide +kernel
theorem dX11_dumb_34 : decode cX11_dumb 34 = .ok (.iload_n 2, 1) := by decide +kernel
theorem dX11_dumb_35 : decode cX11_dumb 35 = .ok (.iload_n 3, 1) := by decide +kernel
theorem dX11_dumb_36 : decode cX11_dumb 36 = .ok (.invokestatic 361, 3) := by decide +kernel
theorem dX11_dumb_39 : decode cX11_dumb 39 = .ok (.lstore 6, 2) := by decide +kernel
theorem dX11_dumb_41 : decode cX11_dumb 41 = .ok (.lload 6, 2) := by decide +kernel
theorem dX11_dumb_43 : decode cX11_dumb 43 = .ok (.lconst 0, 1) := by decide +kernel
theorem dX11_dumb_44 : decode cX11_dumb 44 = .ok (.lcmp, 1) := by decide +kernel
theorem dX11_dumb_45 : decode cX11_dumb 45 = .ok (.ifCond .ne 6, 3) := by decide +kernel
theorem dX11_dumb_48 : decode cX11_dumb 48 = .ok (.bipush (-2), 2) := by decide +kernel
theorem dX11_dumb_50 : decode cX11_dumb 50 = .ok (.ireturn, 1) := by decide +kernel
theorem dX11_dumb_51 : decode cX11_dumb 51 = .ok (.lload 4, 2) := by decide +kernel
theorem dX11_dumb_53 : decode cX11_dumb 53 = .ok (.lload 6, 2) := by decide +kernel
theorem dX11_dumb_55 : decode cX11_dumb 55 = .ok (.invokestatic 365, 3) := by decide +kernel
theorem dX11_dumb_58 : decode cX11_dumb 58 = .ok (.lstore 8, 2) := by decide +kernel
theorem dX11_dumb_60 : decode cX11_dumb 60 = .ok (.lload 8, 2) := by decide +kernel
theorem dX11_dumb_62 : decode cX11_dumb 62 = .ok (.lconst 0, 1) := by decide +kernel
theorem dX11_dumb_63 : decode cX11_dumb 63 = .ok (.lcmp, 1) := by decide +kernel
theorem dX11_dumb_64 : decode cX11_dumb 64 = .ok (.ifCond .ne 6, 3) := by decide +kernel
theorem dX11_dumb_67 : decode cX11_dumb 67 = .ok (.bipush (-2), 2) := by decide +kernel
theorem dX11_dumb_69 : decode cX11_dumb 69 = .ok (.ireturn, 1) := by decide +kernel
theorem dX11_dumb_70 : decode cX11_dumb 70 = .ok (.aload_n 0, 1) := by decide +kernel
theorem dX11_dumb_71 : decode cX11_dumb 71 = .ok (.getfield 19, 3) := by decide +kernel
theorem dX11_dumb_74 : decode cX11_dumb 74 = .ok (.lload 4, 2) := by decide +kernel
theorem dX11_dumb_76 : decode cX11_dumb 76 = .ok (.lload 8, 2) := by decide +kernel
theorem dX11_dumb_78 : decode cX11_dumb 78 = .ok (.ldiv, 1) := by decide +kernel
theorem dX11_dumb_79 : decode cX11_dumb 79 = .ok (.lload 6, 2) := by decide +kernel
theorem dX11_dumb_81 : decode cX11_dumb 81 = .ok (.lload 8, 2) := by decide +kernel
theorem dX11_dumb_83 : decode cX11_dumb 83 = .ok (.ldiv, 1) := by decide +kernel
theorem dX11_dumb_84 : decode cX11_dumb 84 = .ok (.invokevirtual 244, 3) := by decide +kernel
theorem dX11_dumb_87 : decode cX11_dumb 87 = .ok (.iconst 0, 1) := by decide +kernel
theorem dX11_dumb_88 : decode cX11_dumb 88 = .ok (.ireturn, 1) := by decide +kernel
theorem dX12_common_0 : decode cX12_common 0 = .ok (.lload_n 2, 1) := by decide +kernel
theorem dX12_common_1 : decode cX12_common 1 = .ok (.lconst 0, 1) := by decide +kernel
theorem dX12_common_2 : decode cX12_common 2 = .ok (.lcmp, 1) := by decide +kernel
theorem dX12_common_3 : decode cX12_common 3 = .ok (.ifCond .ne 7, 3) := by decide +kernel
theorem dX12_common_6 : decode cX12_common 6 = .ok (.lload_n 0, 1) := by decide +kernel
theorem dX12_common_7 : decode cX12_common 7 = .ok (.goto 10, 3) := by decide +kernel
theorem dX12_common_10 : decode cX12_common 10 = .ok (.lload_n 2, 1) := by decide +kernel
theorem dX12_common_11 : decode cX12_common 11 = .ok (.lload_n 0, 1) := by decide +kernel
theorem dX12_common_12 : decode cX12_common 12 = .ok (.lload_n 2, 1) := by decide +kernel
theorem dX12_common_13 : decode cX12_common 13 = .ok (.lrem, 1) := by decide +kernel
theorem dX12_common_14 : decode cX12_common 14 = .ok (.invokestatic 348, 3) := by decide +kernel
theorem dX12_common_17 : decode cX12_common 17 = .ok (.lreturn, 1) := by decide +kernel
theorem dX12_power_0 : decode cX12_power 0 = .ok (.lconst 1, 1) := by decide +kernel
theorem dX12_power_1 : decode cX12_power 1 = .ok (.lstore_n 3, 1) := by decide +kernel
theorem dX12_power_2 : decode cX12_power 2 = .ok (.iconst 0, 1) := by decide +kernel
theorem dX12_power_3 : decode cX12_power 3 = .ok (.istore 5, 2) := by decide +kernel
theorem dX12_power_5 : decode cX12_power 5 = .ok (.iload 5, 2) := by decide +kernel
theorem dX12_power_7 : decode cX12_power 7 = .ok (.iload_n 2, 1) := by decide +kernel
