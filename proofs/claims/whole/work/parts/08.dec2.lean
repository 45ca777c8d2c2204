theorem dX12_nights_79 : decode cX12_nights 79 = .ok (.aload_n 0, 1) := by decide +kernel
theorem dX12_nights_80 : decode cX12_nights 80 = .ok (.getfield 9, 3) := by decide +kernel
theorem dX12_nights_83 : decode cX12_nights 83 = .ok (.iconst 2, 1) := by decide +kernel
theorem dX12_nights_84 : decode cX12_nights 84 = .ok (.invokevirtual 271, 3) := by decide +kernel
theorem dX12_nights_87 : decode cX12_nights 87 = .ok (.iload_n 2, 1) := by decide +kernel
theorem dX12_nights_88 : decode cX12_nights 88 = .ok (.iconst (-1), 1) := by decide +kernel
theorem dX12_nights_89 : decode cX12_nights 89 = .ok (.ixor, 1) := by decide +kernel
theorem dX12_nights_90 : decode cX12_nights 90 = .ok (.iand, 1) := by decide +kernel
theorem dX12_nights_91 : decode cX12_nights 91 = .ok (.i2l, 1) := by decide +kernel
theorem dX12_nights_92 : decode cX12_nights 92 = .ok (.invokevirtual 267, 3) := by decide +kernel
theorem dX12_nights_95 : decode cX12_nights 95 = .ok (.aload_n 0, 1) := by decide +kernel
theorem dX12_nights_96 : decode cX12_nights 96 = .ok (.aload_n 0, 1) := by decide +kernel
theorem dX12_nights_97 : decode cX12_nights 97 = .ok (.aload_n 0, 1) := by decide +kernel
theorem dX12_nights_98 : decode cX12_nights 98 = .ok (.getfield 9, 3) := by decide +kernel
theorem dX12_nights_101 : decode cX12_nights 101 = .ok (.iconst 5, 1) := by decide +kernel
theorem dX12_nights_102 : decode cX12_nights 102 = .ok (.invokevirtual 271, 3) := by decide +kernel
theorem dX12_nights_105 : decode cX12_nights 105 = .ok (.iload_n 3, 1) := by decide +kernel
theorem dX12_nights_106 : decode cX12_nights 106 = .ok (.iconst (-1), 1) := by decide +kernel
theorem dX12_nights_107 : decode cX12_nights 107 = .ok (.ixor, 1) := by decide +kernel
theorem dX12_nights_108 : decode cX12_nights 108 = .ok (.iand, 1) := by decide +kernel
theorem dX12_nights_109 : decode cX12_nights 109 = .ok (.i2l, 1) := by decide +kernel
theorem dX12_nights_110 : decode cX12_nights 110 = .ok (.invokevirtual 267, 3) := by decide +kernel
theorem dX12_nights_113 : decode cX12_nights 113 = .ok (.aload_n 0, 1) := by decide +kernel
theorem dX12_nights_114 : decode cX12_nights 114 = .ok (.getfield 9, 3) := by decide +kernel
theorem dX12_nights_117 : decode cX12_nights 117 = .ok (.bipush 26, 2) := by decide +kernel
theorem dX12_nights_119 : decode cX12_nights 119 = .ok (.iaload, 1) := by decide +kernel
theorem dX12_nights_120 : decode cX12_nights 120 = .ok (.ireturn, 1) := by decide +kernel
theorem dX4_perform_0 : decode cX4_perform 0 = .ok (.iload_n 2, 1) := by decide +kernel
theorem dX4_perform_1 : decode cX4_perform 1 = .ok (.ifCond .lt 12, 3) := by decide +kernel
theorem dX4_perform_4 : decode cX4_perform 4 = .ok (.iload_n 2, 1) := by decide +kernel
theorem dX4_perform_5 : decode cX4_perform 5 = .ok (.aload_n 1, 1) := by decide +kernel
theorem dX4_perform_6 : decode cX4_perform 6 = .ok (.getfield 89, 3) := by decide +kernel
theorem dX4_perform_9 : decode cX4_perform 9 = .ok (.arraylength, 1) := by decide +kernel
theorem dX4_perform_10 : decode cX4_perform 10 = .ok (.if_icmp .lt 5, 3) := by decide +kernel
theorem dX4_perform_13 : decode cX4_perform 13 = .ok (.iconst (-1), 1) := by decide +kernel
theorem dX4_perform_14 : decode cX4_perform 14 = .ok (.ireturn, 1) := by decide +kernel
theorem dX4_perform_15 : decode cX4_perform 15 = .ok (.aload_n 1, 1) := by decide +kernel
theorem dX4_perform_16 : decode cX4_perform 16 = .ok (.getfield 94, 3) := by decide +kernel
theorem dX4_perform_19 : decode cX4_perform 19 = .ok (.iload_n 2, 1) := by decide +kernel
theorem dX4_perform_20 : decode cX4_perform 20 = .ok (.iaload, 1) := by decide +kernel
theorem dX4_perform_21 : decode cX4_perform 21 = .ok (.istore 4, 2) := by decide +kernel
theorem dX4_perform_23 : decode cX4_perform 23 = .ok (.aload_n 1, 1) := by decide +kernel
theorem dX4_perform_24 : decode cX4_perform 24 = .ok (.getfield 97, 3) := by decide +kernel
theorem dX4_perform_27 : decode cX4_perform 27 = .ok (.iload_n 2, 1) := by decide +kernel
theorem dX4_perform_28 : decode cX4_perform 28 = .ok (.iaload, 1) := by decide +kernel
theorem dX4_perform_29 : decode cX4_perform 29 = .ok (.istore 5, 2) := by decide +kernel
theorem dX4_perform_31 : decode cX4_perform 31 = .ok (.aload_n 1, 1) := by decide +kernel
theorem dX4_perform_32 : decode cX4_perform 32 = .ok (.getfield 89, 3) := by decide +kernel
theorem dX4_perform_35 : decode cX4_perform 35 = .ok (.iload_n 2, 1) := by decide +kernel
theorem dX4_perform_36 : decode cX4_perform 36 = .ok (.iaload, 1) := by decide +kernel
theorem dX4_perform_37 : decode cX4_perform 37 = .ok (.tableswitch 64 0 3 #[31, 40, 50, 57], 31) := by decide +kernel
theorem dX4_perform_68 : decode cX4_perform 68 = .ok (.aload_n 0, 1) := by decide +kernel
theorem dX4_perform_69 : decode cX4_perform 69 = .ok (.iload 4, 2) := by decide +kernel
theorem dX4_perform_71 : decode cX4_perform 71 = .ok (.iload 5, 2) := by decide +kernel
theorem dX4_perform_73 : decode cX4_perform 73 = .ok (.invokevirtual 100, 3) := by decide +kernel
theorem dX4_perform_76 : decode cX4_perform 76 = .ok (.ireturn, 1) := by decide +kernel
theorem dX4_perform_77 : decode cX4_perform 77 = .ok (.aload_n 0, 1) := by decide +kernel
theorem dX4_perform_78 : decode cX4_perform 78 = .ok (.iload 4, 2) := by decide +kernel
theorem dX4_perform_80 : decode cX4_perform 80 = .ok (.iload 5, 2) := by decide +kernel
theorem dX4_perform_82 : decode cX4_perform 82 = .ok (.ineg, 1) := by decide +kernel
theorem dX4_perform_83 : decode cX4_perform 83 = .ok (.invokevirtual 100, 3) := by decide +kernel
theorem dX4_perform_86 : decode cX4_perform 86 = .ok (.ireturn, 1) := by decide +kernel
theorem dX4_perform_87 : decode cX4_perform 87 = .ok (.aload_n 0, 1) := by decide +kernel
theorem dX4_perform_88 : decode cX4_perform 88 = .ok (.iload 4, 2) := by decide +kernel
theorem dX4_perform_90 : decode cX4_perform 90 = .ok (.invokevirtual 103, 3) := by decide +kernel
theorem dX4_perform_93 : decode cX4_perform 93 = .ok (.ireturn, 1) := by decide +kernel
theorem dX4_perform_94 : decode cX4_perform 94 = .ok (.aload_n 0, 1) := by decide +kernel
theorem dX4_perform_95 : decode cX4_perform 95 = .ok (.iload 4, 2) := by decide +kernel
theorem dX4_perform_97 : decode cX4_perform 97 = .ok (.invokevirtual 106, 3) := by decide +kernel
theorem dX4_perform_100 : decode cX4_perform 100 = .ok (.ireturn, 1) := by decide +kernel
theorem dX4_perform_101 : decode cX4_perform 101 = .ok (.iload 5, 2) := by decide +kernel
theorem dX4_perform_103 : decode cX4_perform 103 = .ok (.bipush 60, 2) := by decide +kernel
theorem dX4_perform_105 : decode cX4_perform 105 = .ok (.if_icmp .le 5, 3) := by decide +kernel
theorem dX4_perform_108 : decode cX4_perform 108 = .ok (.iconst (-1), 1) := by decide +kernel
theorem dX4_perform_109 : decode cX4_perform 109 = .ok (.ireturn, 1) := by decide +kernel
theorem dX4_perform_110 : decode cX4_perform 110 = .ok (.aload_n 0, 1) := by decide +kernel
theorem dX4_perform_111 : decode cX4_perform 111 = .ok (.iload 5, 2) := by decide +kernel
theorem dX4_perform_113 : decode cX4_perform 113 = .ok (.iload_n 3, 1) := by decide +kernel
theorem dX4_perform_114 : decode cX4_perform 114 = .ok (.invokevirtual 109, 3) := by decide +kernel
theorem dX4_perform_117 : decode cX4_perform 117 = .ok (.pop, 1) := by decide +kernel
theorem dX4_perform_118 : decode cX4_perform 118 = .ok (.aload_n 0, 1) := by decide +kernel
theorem dX4_perform_119 : decode cX4_perform 119 = .ok (.getfield 24, 3) := by decide +kernel
theorem dX4_perform_122 : decode cX4_perform 122 = .ok (.ireturn, 1) := by decide +kernel
theorem dX0_readsOne_0 : decode cX0_readsOne 0 = .ok (.iload_n 2, 1) := by decide +kernel
theorem dX0_readsOne_1 : decode cX0_readsOne 1 = .ok (.ifCond .lt 9, 3) := by decide +kernel
theorem dX0_readsOne_4 : decode cX0_readsOne 4 = .ok (.iload_n 2, 1) := by decide +kernel
theorem dX0_readsOne_5 : decode cX0_readsOne 5 = .ok (.bipush 20, 2) := by decide +kernel
theorem dX0_readsOne_7 : decode cX0_readsOne 7 = .ok (.if_icmp .lt 5, 3) := by decide +kernel
theorem dX0_readsOne_10 : decode cX0_readsOne 10 = .ok (.iconst 0, 1) := by decide +kernel
theorem dX0_readsOne_11 : decode cX0_readsOne 11 = .ok (.ireturn, 1) := by decide +kernel
theorem dX0_readsOne_12 : decode cX0_readsOne 12 = .ok (.aload_n 0, 1) := by decide +kernel
theorem dX0_readsOne_13 : decode cX0_readsOne 13 = .ok (.getfield 9, 3) := by decide +kernel
theorem dX0_readsOne_16 : decode cX0_readsOne 16 = .ok (.iload_n 2, 1) := by decide +kernel
theorem dX0_readsOne_17 : decode cX0_readsOne 17 = .ok (.aload_n 1, 1) := by decide +kernel
theorem dX0_readsOne_18 : decode cX0_readsOne 18 = .ok (.ldc 19, 2) := by decide +kernel
theorem dX0_readsOne_20 : decode cX0_readsOne 20 = .ok (.invokevirtual 21, 3) := by decide +kernel
theorem dX0_readsOne_23 : decode cX0_readsOne 23 = .ok (.iastore, 1) := by decide +kernel
theorem dX0_readsOne_24 : decode cX0_readsOne 24 = .ok (.aload_n 0, 1) := by decide +kernel
theorem dX0_readsOne_25 : decode cX0_readsOne 25 = .ok (.getfield 9, 3) := by decide +kernel
theorem dX0_readsOne_28 : decode cX0_readsOne 28 = .ok (.iload_n 2, 1) := by decide +kernel
theorem dX0_readsOne_29 : decode cX0_readsOne 29 = .ok (.iaload, 1) := by decide +kernel
theorem dX0_readsOne_30 : decode cX0_readsOne 30 = .ok (.ifCond .ge 5, 3) := by decide +kernel
theorem dX0_readsOne_33 : decode cX0_readsOne 33 = .ok (.iconst 0, 1) := by decide +kernel
theorem dX0_readsOne_34 : decode cX0_readsOne 34 = .ok (.ireturn, 1) := by decide +kernel
theorem dX0_readsOne_35 : decode cX0_readsOne 35 = .ok (.aload_n 0, 1) := by decide +kernel
theorem dX0_readsOne_36 : decode cX0_readsOne 36 = .ok (.getfield 13, 3) := by decide +kernel
theorem dX0_readsOne_39 : decode cX0_readsOne 39 = .ok (.iload_n 2, 1) := by decide +kernel
theorem dX0_readsOne_40 : decode cX0_readsOne 40 = .ok (.aload_n 0, 1) := by decide +kernel
theorem dX0_readsOne_41 : decode cX0_readsOne 41 = .ok (.getfield 9, 3) := by decide +kernel
theorem dX0_readsOne_44 : decode cX0_readsOne 44 = .ok (.iload_n 2, 1) := by decide +kernel
theorem dX0_readsOne_45 : decode cX0_readsOne 45 = .ok (.iaload, 1) := by decide +kernel
theorem dX0_readsOne_46 : decode cX0_readsOne 46 = .ok (.iconst 4, 1) := by decide +kernel
theorem dX0_readsOne_47 : decode cX0_readsOne 47 = .ok (.if_icmp .ne 7, 3) := by decide +kernel
theorem dX0_readsOne_50 : decode cX0_readsOne 50 = .ok (.iconst 0, 1) := by decide +kernel
theorem dX0_readsOne_51 : decode cX0_readsOne 51 = .ok (.goto 9, 3) := by decide +kernel
theorem dX0_readsOne_54 : decode cX0_readsOne 54 = .ok (.aload_n 1, 1) := by decide +kernel
theorem dX0_readsOne_55 : decode cX0_readsOne 55 = .ok (.bipush 10, 2) := by decide +kernel
theorem dX0_readsOne_57 : decode cX0_readsOne 57 = .ok (.invokevirtual 27, 3) := by decide +kernel
theorem dX0_readsOne_60 : decode cX0_readsOne 60 = .ok (.iastore, 1) := by decide +kernel
theorem dX0_readsOne_61 : decode cX0_readsOne 61 = .ok (.aload_n 0, 1) := by decide +kernel
theorem dX0_readsOne_62 : decode cX0_readsOne 62 = .ok (.getfield 13, 3) := by decide +kernel
theorem dX0_readsOne_65 : decode cX0_readsOne 65 = .ok (.iload_n 2, 1) := by decide +kernel
theorem dX0_readsOne_66 : decode cX0_readsOne 66 = .ok (.iaload, 1) := by decide +kernel
theorem dX0_readsOne_67 : decode cX0_readsOne 67 = .ok (.ifCond .ge 5, 3) := by decide +kernel
theorem dX0_readsOne_70 : decode cX0_readsOne 70 = .ok (.iconst 0, 1) := by decide +kernel
theorem dX0_readsOne_71 : decode cX0_readsOne 71 = .ok (.ireturn, 1) := by decide +kernel
theorem dX0_readsOne_72 : decode cX0_readsOne 72 = .ok (.aload_n 0, 1) := by decide +kernel
theorem dX0_readsOne_73 : decode cX0_readsOne 73 = .ok (.getfield 9, 3) := by decide +kernel
theorem dX0_readsOne_76 : decode cX0_readsOne 76 = .ok (.iload_n 2, 1) := by decide +kernel
theorem dX0_readsOne_77 : decode cX0_readsOne 77 = .ok (.iaload, 1) := by decide +kernel
theorem dX0_readsOne_78 : decode cX0_readsOne 78 = .ok (.iconst 2, 1) := by decide +kernel
theorem dX0_readsOne_79 : decode cX0_readsOne 79 = .ok (.if_icmp .eq 17, 3) := by decide +kernel
theorem dX0_readsOne_82 : decode cX0_readsOne 82 = .ok (.aload_n 0, 1) := by decide +kernel
theorem dX0_readsOne_83 : decode cX0_readsOne 83 = .ok (.getfield 9, 3) := by decide +kernel
theorem dX0_readsOne_86 : decode cX0_readsOne 86 = .ok (.iload_n 2, 1) := by decide +kernel
theorem dX0_readsOne_87 : decode cX0_readsOne 87 = .ok (.iaload, 1) := by decide +kernel
theorem dX0_readsOne_88 : decode cX0_readsOne 88 = .ok (.iconst 3, 1) := by decide +kernel
theorem dX0_readsOne_89 : decode cX0_readsOne 89 = .ok (.if_icmp .eq 7, 3) := by decide +kernel
theorem dX0_readsOne_92 : decode cX0_readsOne 92 = .ok (.iconst 1, 1) := by decide +kernel
theorem dX0_readsOne_93 : decode cX0_readsOne 93 = .ok (.goto 4, 3) := by decide +kernel
theorem dX0_readsOne_96 : decode cX0_readsOne 96 = .ok (.iconst 0, 1) := by decide +kernel
theorem dX0_readsOne_97 : decode cX0_readsOne 97 = .ok (.istore_n 3, 1) := by decide +kernel
theorem dX0_readsOne_98 : decode cX0_readsOne 98 = .ok (.aload_n 0, 1) := by decide +kernel
theorem dX0_readsOne_99 : decode cX0_readsOne 99 = .ok (.getfield 16, 3) := by decide +kernel
theorem dX0_readsOne_102 : decode cX0_readsOne 102 = .ok (.iload_n 2, 1) := by decide +kernel
theorem dX0_readsOne_103 : decode cX0_readsOne 103 = .ok (.iload_n 3, 1) := by decide +kernel
theorem dX0_readsOne_104 : decode cX0_readsOne 104 = .ok (.ifCond .eq 11, 3) := by decide +kernel
theorem dX0_readsOne_107 : decode cX0_readsOne 107 = .ok (.aload_n 1, 1) := by decide +kernel
theorem dX0_readsOne_108 : decode cX0_readsOne 108 = .ok (.iconst 2, 1) := by decide +kernel
theorem dX0_readsOne_109 : decode cX0_readsOne 109 = .ok (.invokevirtual 31, 3) := by decide +kernel
theorem dX0_readsOne_112 : decode cX0_readsOne 112 = .ok (.goto 4, 3) := by decide +kernel
theorem dX0_readsOne_115 : decode cX0_readsOne 115 = .ok (.iconst 0, 1) := by decide +kernel
theorem dX0_readsOne_116 : decode cX0_readsOne 116 = .ok (.iastore, 1) := by decide +kernel
theorem dX0_readsOne_117 : decode cX0_readsOne 117 = .ok (.aload_n 0, 1) := by decide +kernel
theorem dX0_readsOne_118 : decode cX0_readsOne 118 = .ok (.getfield 16, 3) := by decide +kernel
theorem dX0_readsOne_121 : decode cX0_readsOne 121 = .ok (.iload_n 2, 1) := by decide +kernel
theorem dX0_readsOne_122 : decode cX0_readsOne 122 = .ok (.iaload, 1) := by decide +kernel
theorem dX0_readsOne_123 : decode cX0_readsOne 123 = .ok (.ifCond .lt 7, 3) := by decide +kernel
theorem dX0_readsOne_126 : decode cX0_readsOne 126 = .ok (.iconst 1, 1) := by decide +kernel
theorem dX0_readsOne_127 : decode cX0_readsOne 127 = .ok (.goto 4, 3) := by decide +kernel
theorem dX0_readsOne_130 : decode cX0_readsOne 130 = .ok (.iconst 0, 1) := by decide +kernel
theorem dX0_readsOne_131 : decode cX0_readsOne 131 = .ok (.ireturn, 1) := by decide +kernel
theorem dX11_assize_0 : decode cX11_assize 0 = .ok (.aload_n 0, 1) := by decide +kernel
theorem dX11_assize_1 : decode cX11_assize 1 = .ok (.getfield 42, 3) := by decide +kernel
theorem dX11_assize_4 : decode cX11_assize 4 = .ok (.aload_n 0, 1) := by decide +kernel
theorem dX11_assize_5 : decode cX11_assize 5 = .ok (.getfield 10, 3) := by decide +kernel
theorem dX11_assize_8 : decode cX11_assize 8 = .ok (.bipush 60, 2) := by decide +kernel
theorem dX11_assize_10 : decode cX11_assize 10 = .ok (.invokevirtual 247, 3) := by decide +kernel
theorem dX11_assize_13 : decode cX11_assize 13 = .ok (.istore_n 1, 1) := by decide +kernel
theorem dX11_assize_14 : decode cX11_assize 14 = .ok (.aload_n 0, 1) := by decide +kernel
theorem dX11_assize_15 : decode cX11_assize 15 = .ok (.getfield 10, 3) := by decide +kernel
theorem dX11_assize_18 : decode cX11_assize 18 = .ok (.invokevirtual 116, 3) := by decide +kernel
theorem dX11_assize_21 : decode cX11_assize 21 = .ok (.iload_n 1, 1) := by decide +kernel
theorem dX11_assize_22 : decode cX11_assize 22 = .ok (.ifCond .ge 5, 3) := by decide +kernel
theorem dX11_assize_25 : decode cX11_assize 25 = .ok (.iload_n 1, 1) := by decide +kernel
theorem dX11_assize_26 : decode cX11_assize 26 = .ok (.ireturn, 1) := by decide +kernel
theorem dX11_assize_27 : decode cX11_assize 27 = .ok (.aload_n 0, 1) := by decide +kernel
theorem dX11_assize_28 : decode cX11_assize 28 = .ok (.getfield 75, 3) := by decide +kernel
theorem dX11_assize_31 : decode cX11_assize 31 = .ok (.aload_n 0, 1) := by decide +kernel
theorem dX11_assize_32 : decode cX11_assize 32 = .ok (.getfield 65, 3) := by decide +kernel
theorem dX11_assize_35 : decode cX11_assize 35 = .ok (.invokevirtual 212, 3) := by decide +kernel
theorem dX11_assize_38 : decode cX11_assize 38 = .ok (.iconst 0, 1) := by decide +kernel
theorem dX11_assize_39 : decode cX11_assize 39 = .ok (.istore_n 2, 1) := by decide +kernel
theorem dX11_assize_40 : decode cX11_assize 40 = .ok (.iload_n 2, 1) := by decide +kernel
theorem dX11_assize_41 : decode cX11_assize 41 = .ok (.iload_n 1, 1) := by decide +kernel
theorem dX11_assize_42 : decode cX11_assize 42 = .ok (.if_icmp .ge 28, 3) := by decide +kernel
theorem dX11_assize_45 : decode cX11_assize 45 = .ok (.aload_n 0, 1) := by decide +kernel
theorem dX11_assize_46 : decode cX11_assize 46 = .ok (.getfield 65, 3) := by decide +kernel
theorem dX11_assize_49 : decode cX11_assize 49 = .ok (.aload_n 0, 1) := by decide +kernel
theorem dX11_assize_50 : decode cX11_assize 50 = .ok (.getfield 42, 3) := by decide +kernel
theorem dX11_assize_53 : decode cX11_assize 53 = .ok (.iload_n 2, 1) := by decide +kernel
theorem dX11_assize_54 : decode cX11_assize 54 = .ok (.aload_n 0, 1) := by decide +kernel
theorem dX11_assize_55 : decode cX11_assize 55 = .ok (.getfield 100, 3) := by decide +kernel
theorem dX11_assize_58 : decode cX11_assize 58 = .ok (.invokevirtual 248, 3) := by decide +kernel
theorem dX11_assize_61 : decode cX11_assize 61 = .ok (.ifCond .lt 9, 3) := by decide +kernel
theorem dX11_assize_64 : decode cX11_assize 64 = .ok (.iinc 2 1, 3) := by decide +kernel
theorem dX11_assize_67 : decode cX11_assize 67 = .ok (.goto (-27), 3) := by decide +kernel
theorem dX11_assize_70 : decode cX11_assize 70 = .ok (.iload_n 2, 1) := by decide +kernel
theorem dX11_assize_71 : decode cX11_assize 71 = .ok (.ifCond .le 10, 3) := by decide +kernel
theorem dX11_assize_74 : decode cX11_assize 74 = .ok (.aload_n 0, 1) := by decide +kernel
theorem dX11_assize_75 : decode cX11_assize 75 = .ok (.getfield 75, 3) := by decide +kernel
theorem dX11_assize_78 : decode cX11_assize 78 = .ok (.invokevirtual 235, 3) := by decide +kernel
theorem dX11_assize_81 : decode cX11_assize 81 = .ok (.aload_n 0, 1) := by decide +kernel
theorem dX11_assize_82 : decode cX11_assize 82 = .ok (.getfield 19, 3) := by decide +kernel
theorem dX11_assize_85 : decode cX11_assize 85 = .ok (.iload_n 2, 1) := by decide +kernel
theorem dX11_assize_86 : decode cX11_assize 86 = .ok (.iload_n 1, 1) := by decide +kernel
theorem dX11_assize_87 : decode cX11_assize 87 = .ok (.if_icmp .ge 7, 3) := by decide +kernel
theorem dX11_assize_90 : decode cX11_assize 90 = .ok (.lconst 1, 1) := by decide +kernel
theorem dX11_assize_91 : decode cX11_assize 91 = .ok (.goto 4, 3) := by decide +kernel
theorem dX11_assize_94 : decode cX11_assize 94 = .ok (.lconst 0, 1) := by decide +kernel
theorem dX11_assize_95 : decode cX11_assize 95 = .ok (.aload_n 0, 1) := by decide +kernel
theorem dX11_assize_96 : decode cX11_assize 96 = .ok (.getfield 65, 3) := by decide +kernel
theorem dX11_assize_99 : decode cX11_assize 99 = .ok (.getfield 206, 3) := by decide +kernel
theorem dX11_assize_102 : decode cX11_assize 102 = .ok (.i2l, 1) := by decide +kernel
theorem dX11_assize_103 : decode cX11_assize 103 = .ok (.invokevirtual 244, 3) := by decide +kernel
theorem dX11_assize_106 : decode cX11_assize 106 = .ok (.iload_n 2, 1) := by decide +kernel
theorem dX11_assize_107 : decode cX11_assize 107 = .ok (.ireturn, 1) := by decide +kernel
theorem dX12_act_0 : decode cX12_act 0 = .ok (.iload_n 1, 1) := by decide +kernel
theorem dX12_act_1 : decode cX12_act 1 = .ok (.lookupswitch 169 #[(97, 81), (106, 127), (108, 43), (111, 43)], 43) := by decide +kernel
theorem dX12_act_44 : decode cX12_act 44 = .ok (.iload_n 1, 1) := by decide +kernel
theorem dX12_act_45 : decode cX12_act 45 = .ok (.bipush 108, 2) := by decide +kernel
theorem dX12_act_47 : decode cX12_act 47 = .ok (.if_icmp .ne 7, 3) := by decide +kernel
theorem dX12_act_50 : decode cX12_act 50 = .ok (.iload_n 3, 1) := by decide +kernel
theorem dX12_act_51 : decode cX12_act 51 = .ok (.goto 5, 3) := by decide +kernel
theorem dX12_act_54 : decode cX12_act 54 = .ok (.iload_n 3, 1) := by decide +kernel
theorem dX12_act_55 : decode cX12_act 55 = .ok (.ineg, 1) := by decide +kernel
theorem dX12_act_56 : decode cX12_act 56 = .ok (.istore 4, 2) := by decide +kernel
theorem dX12_act_58 : decode cX12_act 58 = .ok (.aload_n 0, 1) := by decide +kernel
theorem dX12_act_59 : decode cX12_act 59 = .ok (.iload_n 2, 1) := by decide +kernel
theorem dX12_act_60 : decode cX12_act 60 = .ok (.iload 4, 2) := by decide +kernel
theorem dX12_act_62 : decode cX12_act 62 = .ok (.invokevirtual 246, 3) := by decide +kernel
theorem dX12_act_65 : decode cX12_act 65 = .ok (.ifCond .ge 5, 3) := by decide +kernel
theorem dX12_act_68 : decode cX12_act 68 = .ok (.iconst 0, 1) := by decide +kernel
theorem dX12_act_69 : decode cX12_act 69 = .ok (.ireturn, 1) := by decide +kernel
theorem dX12_act_70 : decode cX12_act 70 = .ok (.aload_n 0, 1) := by decide +kernel
theorem dX12_act_71 : decode cX12_act 71 = .ok (.getfield 9, 3) := by decide +kernel
theorem dX12_act_74 : decode cX12_act 74 = .ok (.iload_n 2, 1) := by decide +kernel
theorem dX12_act_75 : decode cX12_act 75 = .ok (.iload 4, 2) := by decide +kernel
theorem dX12_act_77 : decode cX12_act 77 = .ok (.invokestatic 253, 3) := by decide +kernel
theorem dX12_act_80 : decode cX12_act 80 = .ok (.iconst 1, 1) := by decide +kernel
theorem dX12_act_81 : decode cX12_act 81 = .ok (.ireturn, 1) := by decide +kernel
theorem dX12_act_82 : decode cX12_act 82 = .ok (.aload_n 0, 1) := by decide +kernel
theorem dX12_act_83 : decode cX12_act 83 = .ok (.iload_n 2, 1) := by decide +kernel
theorem dX12_act_84 : decode cX12_act 84 = .ok (.invokevirtual 224, 3) := by decide +kernel
theorem dX12_act_87 : decode cX12_act 87 = .ok (.ifCond .eq 12, 3) := by decide +kernel
theorem dX12_act_90 : decode cX12_act 90 = .ok (.aload_n 0, 1) := by decide +kernel
theorem dX12_act_91 : decode cX12_act 91 = .ok (.getfield 9, 3) := by decide +kernel
theorem dX12_act_94 : decode cX12_act 94 = .ok (.iload_n 2, 1) := by decide +kernel
theorem dX12_act_95 : decode cX12_act 95 = .ok (.iaload, 1) := by decide +kernel
theorem dX12_act_96 : decode cX12_act 96 = .ok (.ifCond .eq 5, 3) := by decide +kernel
theorem dX12_act_99 : decode cX12_act 99 = .ok (.iconst 0, 1) := by decide +kernel
theorem dX12_act_100 : decode cX12_act 100 = .ok (.ireturn, 1) := by decide +kernel
theorem dX12_act_101 : decode cX12_act 101 = .ok (.aload_n 0, 1) := by decide +kernel
theorem dX12_act_102 : decode cX12_act 102 = .ok (.iload_n 2, 1) := by decide +kernel
theorem dX12_act_103 : decode cX12_act 103 = .ok (.aload_n 0, 1) := by decide +kernel
theorem dX12_act_104 : decode cX12_act 104 = .ok (.aload_n 0, 1) := by decide +kernel
theorem dX12_act_105 : decode cX12_act 105 = .ok (.getfield 9, 3) := by decide +kernel
theorem dX12_act_108 : decode cX12_act 108 = .ok (.iload_n 2, 1) := by decide +kernel
theorem dX12_act_109 : decode cX12_act 109 = .ok (.invokevirtual 231, 3) := by decide +kernel
theorem dX12_act_112 : decode cX12_act 112 = .ok (.invokevirtual 257, 3) := by decide +kernel
theorem dX12_act_115 : decode cX12_act 115 = .ok (.ifCond .eq 11, 3) := by decide +kernel
theorem dX12_act_118 : decode cX12_act 118 = .ok (.aload_n 0, 1) := by decide +kernel
theorem dX12_act_119 : decode cX12_act 119 = .ok (.getfield 9, 3) := by decide +kernel
theorem dX12_act_122 : decode cX12_act 122 = .ok (.iload_n 2, 1) := by decide +kernel
theorem dX12_act_123 : decode cX12_act 123 = .ok (.invokestatic 260, 3) := by decide +kernel
theorem dX12_act_126 : decode cX12_act 126 = .ok (.iconst 1, 1) := by decide +kernel
theorem dX12_act_127 : decode cX12_act 127 = .ok (.ireturn, 1) := by decide +kernel
theorem dX12_act_128 : decode cX12_act 128 = .ok (.aload_n 0, 1) := by decide +kernel
theorem dX12_act_129 : decode cX12_act 129 = .ok (.iload_n 2, 1) := by decide +kernel
theorem dX12_act_130 : decode cX12_act 130 = .ok (.invokevirtual 224, 3) := by decide +kernel
theorem dX12_act_133 : decode cX12_act 133 = .ok (.ifCond .eq 13, 3) := by decide +kernel
theorem dX12_act_136 : decode cX12_act 136 = .ok (.aload_n 0, 1) := by decide +kernel
theorem dX12_act_137 : decode cX12_act 137 = .ok (.getfield 9, 3) := by decide +kernel
theorem dX12_act_140 : decode cX12_act 140 = .ok (.iload_n 2, 1) := by decide +kernel
theorem dX12_act_141 : decode cX12_act 141 = .ok (.iaload, 1) := by decide +kernel
theorem dX12_act_142 : decode cX12_act 142 = .ok (.iconst 1, 1) := by decide +kernel
theorem dX12_act_143 : decode cX12_act 143 = .ok (.if_icmp .eq 5, 3) := by decide +kernel
theorem dX12_act_146 : decode cX12_act 146 = .ok (.iconst 0, 1) := by decide +kernel
theorem dX12_act_147 : decode cX12_act 147 = .ok (.ireturn, 1) := by decide +kernel
theorem dX12_act_148 : decode cX12_act 148 = .ok (.aload_n 0, 1) := by decide +kernel
theorem dX12_act_149 : decode cX12_act 149 = .ok (.getfield 9, 3) := by decide +kernel
theorem dX12_act_152 : decode cX12_act 152 = .ok (.iload_n 2, 1) := by decide +kernel
theorem dX12_act_153 : decode cX12_act 153 = .ok (.aload_n 0, 1) := by decide +kernel
theorem dX12_act_154 : decode cX12_act 154 = .ok (.aload_n 0, 1) := by decide +kernel
theorem dX12_act_155 : decode cX12_act 155 = .ok (.aload_n 0, 1) := by decide +kernel
theorem dX12_act_156 : decode cX12_act 156 = .ok (.getfield 9, 3) := by decide +kernel
theorem dX12_act_159 : decode cX12_act 159 = .ok (.iload_n 2, 1) := by decide +kernel
theorem dX12_act_160 : decode cX12_act 160 = .ok (.iconst 0, 1) := by decide +kernel
theorem dX12_act_161 : decode cX12_act 161 = .ok (.invokevirtual 235, 3) := by decide +kernel
theorem dX12_act_164 : decode cX12_act 164 = .ok (.invokevirtual 264, 3) := by decide +kernel
theorem dX12_act_167 : decode cX12_act 167 = .ok (.iastore, 1) := by decide +kernel
theorem dX12_act_168 : decode cX12_act 168 = .ok (.iconst 1, 1) := by decide +kernel
theorem dX12_act_169 : decode cX12_act 169 = .ok (.ireturn, 1) := by decide +kernel
theorem dX12_act_170 : decode cX12_act 170 = .ok (.iload_n 2, 1) := by decide +kernel
theorem dX12_act_171 : decode cX12_act 171 = .ok (.bipush 60, 2) := by decide +kernel
theorem dX12_act_173 : decode cX12_act 173 = .ok (.if_icmp .le 5, 3) := by decide +kernel
theorem dX12_act_176 : decode cX12_act 176 = .ok (.iconst 0, 1) := by decide +kernel
theorem dX12_act_177 : decode cX12_act 177 = .ok (.ireturn, 1) := by decide +kernel
theorem dX12_act_178 : decode cX12_act 178 = .ok (.iconst 0, 1) := by decide +kernel
theorem dX12_act_179 : decode cX12_act 179 = .ok (.istore 4, 2) := by decide +kernel
theorem dX12_act_181 : decode cX12_act 181 = .ok (.iload 4, 2) := by decide +kernel
theorem dX12_act_183 : decode cX12_act 183 = .ok (.iload_n 2, 1) := by decide +kernel
theorem dX12_act_184 : decode cX12_act 184 = .ok (.if_icmp .ge 17, 3) := by decide +kernel
theorem dX12_act_187 : decode cX12_act 187 = .ok (.aload_n 0, 1) := by decide +kernel
theorem dX12_act_188 : decode cX12_act 188 = .ok (.aload_n 0, 1) := by decide +kernel
theorem dX12_act_189 : decode cX12_act 189 = .ok (.getfield 9, 3) := by decide +kernel
theorem dX12_act_192 : decode cX12_act 192 = .ok (.invokevirtual 274, 3) := by decide +kernel
theorem dX12_act_195 : decode cX12_act 195 = .ok (.iinc 4 1, 3) := by decide +kernel
theorem dX12_act_198 : decode cX12_act 198 = .ok (.goto (-17), 3) := by decide +kernel
theorem dX12_act_201 : decode cX12_act 201 = .ok (.iconst 1, 1) := by decide +kernel
theorem dX12_act_202 : decode cX12_act 202 = .ok (.ireturn, 1) := by decide +kernel
theorem dX12_readAct_0 : decode cX12_readAct 0 = .ok (.aload_n 0, 1) := by decide +kernel
theorem dX12_readAct_1 : decode cX12_readAct 1 = .ok (.invokevirtual 134, 3) := by decide +kernel
theorem dX12_readAct_4 : decode cX12_readAct 4 = .ok (.istore_n 2, 1) := by decide +kernel
theorem dX12_readAct_5 : decode cX12_readAct 5 = .ok (.iload_n 2, 1) := by decide +kernel
theorem dX12_readAct_6 : decode cX12_readAct 6 = .ok (.bipush 108, 2) := by decide +kernel
theorem dX12_readAct_8 : decode cX12_readAct 8 = .ok (.if_icmp .eq 35, 3) := by decide +kernel
theorem dX12_readAct_11 : decode cX12_readAct 11 = .ok (.iload_n 2, 1) := by decide +kernel
theorem dX12_readAct_12 : decode cX12_readAct 12 = .ok (.bipush 111, 2) := by decide +kernel
theorem dX12_readAct_14 : decode cX12_readAct 14 = .ok (.if_icmp .eq 29, 3) := by decide +kernel
theorem dX12_readAct_17 : decode cX12_readAct 17 = .ok (.iload_n 2, 1) := by decide +kernel
theorem dX12_readAct_18 : decode cX12_readAct 18 = .ok (.bipush 97, 2) := by decide +kernel
theorem dX12_readAct_20 : decode cX12_readAct 20 = .ok (.if_icmp .eq 23, 3) := by decide +kernel
theorem dX12_readAct_23 : decode cX12_readAct 23 = .ok (.iload_n 2, 1) := by decide +kernel
theorem dX12_readAct_24 : decode cX12_readAct 24 = .ok (.bipush 106, 2) := by decide +kernel
theorem dX12_readAct_26 : decode cX12_readAct 26 = .ok (.if_icmp .eq 17, 3) := by decide +kernel
theorem dX12_readAct_29 : decode cX12_readAct 29 = .ok (.iload_n 2, 1) := by decide +kernel
theorem dX12_readAct_30 : decode cX12_readAct 30 = .ok (.bipush 110, 2) := by decide +kernel
theorem dX12_readAct_32 : decode cX12_readAct 32 = .ok (.if_icmp .eq 11, 3) := by decide +kernel
theorem dX12_readAct_35 : decode cX12_readAct 35 = .ok (.aload_n 0, 1) := by decide +kernel
theorem dX12_readAct_36 : decode cX12_readAct 36 = .ok (.aload_n 0, 1) := by decide +kernel
theorem dX12_readAct_37 : decode cX12_readAct 37 = .ok (.getfield 120, 3) := by decide +kernel
theorem dX12_readAct_40 : decode cX12_readAct 40 = .ok (.invokevirtual 142, 3) := by decide +kernel
theorem dX12_readAct_43 : decode cX12_readAct 43 = .ok (.aload_n 0, 1) := by decide +kernel
theorem dX12_readAct_44 : decode cX12_readAct 44 = .ok (.dup, 1) := by decide +kernel
theorem dX12_readAct_45 : decode cX12_readAct 45 = .ok (.getfield 120, 3) := by decide +kernel
theorem dX12_readAct_48 : decode cX12_readAct 48 = .ok (.iconst 1, 1) := by decide +kernel
theorem dX12_readAct_49 : decode cX12_readAct 49 = .ok (.iadd, 1) := by decide +kernel
theorem dX12_readAct_50 : decode cX12_readAct 50 = .ok (.putfield 120, 3) := by decide +kernel
theorem dX12_readAct_53 : decode cX12_readAct 53 = .ok (.aload_n 0, 1) := by decide +kernel
theorem dX12_readAct_54 : decode cX12_readAct 54 = .ok (.getfield 71, 3) := by decide +kernel
theorem dX12_readAct_57 : decode cX12_readAct 57 = .ok (.iload_n 1, 1) := by decide +kernel
theorem dX12_readAct_58 : decode cX12_readAct 58 = .ok (.iload_n 2, 1) := by decide +kernel
theorem dX12_readAct_59 : decode cX12_readAct 59 = .ok (.iastore, 1) := by decide +kernel
theorem dX12_readAct_60 : decode cX12_readAct 60 = .ok (.aload_n 0, 1) := by decide +kernel
theorem dX12_readAct_61 : decode cX12_readAct 61 = .ok (.getfield 71, 3) := by decide +kernel
theorem dX12_readAct_64 : decode cX12_readAct 64 = .ok (.iload_n 1, 1) := by decide +kernel
theorem dX12_readAct_65 : decode cX12_readAct 65 = .ok (.iconst 1, 1) := by decide +kernel
theorem dX12_readAct_66 : decode cX12_readAct 66 = .ok (.iadd, 1) := by decide +kernel
theorem dX12_readAct_67 : decode cX12_readAct 67 = .ok (.iload_n 2, 1) := by decide +kernel
theorem dX12_readAct_68 : decode cX12_readAct 68 = .ok (.bipush 110, 2) := by decide +kernel
theorem dX12_readAct_70 : decode cX12_readAct 70 = .ok (.if_icmp .ne 11, 3) := by decide +kernel
theorem dX12_readAct_73 : decode cX12_readAct 73 = .ok (.aload_n 0, 1) := by decide +kernel
theorem dX12_readAct_74 : decode cX12_readAct 74 = .ok (.iconst 2, 1) := by decide +kernel
theorem dX12_readAct_75 : decode cX12_readAct 75 = .ok (.invokevirtual 150, 3) := by decide +kernel
theorem dX12_readAct_78 : decode cX12_readAct 78 = .ok (.goto 11, 3) := by decide +kernel
theorem dX12_readAct_81 : decode cX12_readAct 81 = .ok (.aload_n 0, 1) := by decide +kernel
theorem dX12_readAct_82 : decode cX12_readAct 82 = .ok (.bipush 48, 2) := by decide +kernel
theorem dX12_readAct_84 : decode cX12_readAct 84 = .ok (.bipush 10, 2) := by decide +kernel
theorem dX12_readAct_86 : decode cX12_readAct 86 = .ok (.invokevirtual 146, 3) := by decide +kernel
theorem dX12_readAct_89 : decode cX12_readAct 89 = .ok (.iastore, 1) := by decide +kernel
theorem dX12_readAct_90 : decode cX12_readAct 90 = .ok (.iload_n 2, 1) := by decide +kernel
theorem dX12_readAct_91 : decode cX12_readAct 91 = .ok (.bipush 108, 2) := by decide +kernel
theorem dX12_readAct_93 : decode cX12_readAct 93 = .ok (.if_icmp .eq 9, 3) := by decide +kernel
theorem dX12_readAct_96 : decode cX12_readAct 96 = .ok (.iload_n 2, 1) := by decide +kernel
theorem dX12_readAct_97 : decode cX12_readAct 97 = .ok (.bipush 111, 2) := by decide +kernel
theorem dX12_readAct_99 : decode cX12_readAct 99 = .ok (.if_icmp .ne 16, 3) := by decide +kernel
theorem dX12_readAct_102 : decode cX12_readAct 102 = .ok (.aload_n 0, 1) := by decide +kernel
theorem dX12_readAct_103 : decode cX12_readAct 103 = .ok (.getfield 71, 3) := by decide +kernel
theorem dX12_readAct_106 : decode cX12_readAct 106 = .ok (.iload_n 1, 1) := by decide +kernel
theorem dX12_readAct_107 : decode cX12_readAct 107 = .ok (.iconst 2, 1) := by decide +kernel
theorem dX12_readAct_108 : decode cX12_readAct 108 = .ok (.iadd, 1) := by decide +kernel
theorem dX12_readAct_109 : decode cX12_readAct 109 = .ok (.aload_n 0, 1) := by decide +kernel
theorem dX12_readAct_110 : decode cX12_readAct 110 = .ok (.iconst 2, 1) := by decide +kernel
theorem dX12_readAct_111 : decode cX12_readAct 111 = .ok (.invokevirtual 150, 3) := by decide +kernel
theorem dX12_readAct_114 : decode cX12_readAct 114 = .ok (.iastore, 1) := by decide +kernel
theorem dX12_readAct_115 : decode cX12_readAct 115 = .ok (.return_, 1) := by decide +kernel
theorem dX12_assize_0 : decode cX12_assize 0 = .ok (.aload_n 0, 1) := by decide +kernel
theorem dX12_assize_1 : decode cX12_assize 1 = .ok (.iconst 0, 1) := by decide +kernel
theorem dX12_assize_2 : decode cX12_assize 2 = .ok (.putfield 95, 3) := by decide +kernel
theorem dX12_assize_5 : decode cX12_assize 5 = .ok (.aload_n 0, 1) := by decide +kernel
theorem dX12_assize_6 : decode cX12_assize 6 = .ok (.bipush 60, 2) := by decide +kernel
theorem dX12_assize_8 : decode cX12_assize 8 = .ok (.invokevirtual 162, 3) := by decide +kernel
theorem dX12_assize_11 : decode cX12_assize 11 = .ok (.iconst 0, 1) := by decide +kernel
theorem dX12_assize_12 : decode cX12_assize 12 = .ok (.istore_n 1, 1) := by decide +kernel
theorem dX12_assize_13 : decode cX12_assize 13 = .ok (.aload_n 0, 1) := by decide +kernel
theorem dX12_assize_14 : decode cX12_assize 14 = .ok (.getfield 114, 3) := by decide +kernel
theorem dX12_assize_17 : decode cX12_assize 17 = .ok (.ifCond .le 7, 3) := by decide +kernel
theorem dX12_assize_20 : decode cX12_assize 20 = .ok (.iconst 1, 1) := by decide +kernel
theorem dX12_assize_21 : decode cX12_assize 21 = .ok (.goto 4, 3) := by decide +kernel
theorem dX12_assize_24 : decode cX12_assize 24 = .ok (.iconst 0, 1) := by decide +kernel
theorem dX12_assize_25 : decode cX12_assize 25 = .ok (.istore_n 2, 1) := by decide +kernel
theorem dX12_assize_26 : decode cX12_assize 26 = .ok (.iload_n 2, 1) := by decide +kernel
theorem dX12_assize_27 : decode cX12_assize 27 = .ok (.ifCond .eq 30, 3) := by decide +kernel
theorem dX12_assize_30 : decode cX12_assize 30 = .ok (.aload_n 0, 1) := by decide +kernel
theorem dX12_assize_31 : decode cX12_assize 31 = .ok (.invokevirtual 130, 3) := by decide +kernel
theorem dX12_assize_34 : decode cX12_assize 34 = .ok (.ifCond .eq 23, 3) := by decide +kernel
theorem dX12_assize_37 : decode cX12_assize 37 = .ok (.aload_n 0, 1) := by decide +kernel
theorem dX12_assize_38 : decode cX12_assize 38 = .ok (.iconst 3, 1) := by decide +kernel
theorem dX12_assize_39 : decode cX12_assize 39 = .ok (.iload_n 1, 1) := by decide +kernel
theorem dX12_assize_40 : decode cX12_assize 40 = .ok (.imul, 1) := by decide +kernel
theorem dX12_assize_41 : decode cX12_assize 41 = .ok (.invokevirtual 277, 3) := by decide +kernel
theorem dX12_assize_44 : decode cX12_assize 44 = .ok (.iinc 1 1, 3) := by decide +kernel
theorem dX12_assize_47 : decode cX12_assize 47 = .ok (.aload_n 0, 1) := by decide +kernel
theorem dX12_assize_48 : decode cX12_assize 48 = .ok (.bipush 59, 2) := by decide +kernel
theorem dX12_assize_50 : decode cX12_assize 50 = .ok (.invokevirtual 138, 3) := by decide +kernel
theorem dX12_assize_53 : decode cX12_assize 53 = .ok (.istore_n 2, 1) := by decide +kernel
theorem dX12_assize_54 : decode cX12_assize 54 = .ok (.goto (-28), 3) := by decide +kernel
theorem dX12_assize_57 : decode cX12_assize 57 = .ok (.aload_n 0, 1) := by decide +kernel
theorem dX12_assize_58 : decode cX12_assize 58 = .ok (.invokevirtual 172, 3) := by decide +kernel
theorem dX12_assize_61 : decode cX12_assize 61 = .ok (.ifCond .ne 10, 3) := by decide +kernel
theorem dX12_assize_64 : decode cX12_assize 64 = .ok (.iconst (-1), 1) := by decide +kernel
theorem dX12_assize_65 : decode cX12_assize 65 = .ok (.aload_n 0, 1) := by decide +kernel
theorem dX12_assize_66 : decode cX12_assize 66 = .ok (.getfield 123, 3) := by decide +kernel
theorem dX12_assize_69 : decode cX12_assize 69 = .ok (.isub, 1) := by decide +kernel
theorem dX12_assize_70 : decode cX12_assize 70 = .ok (.ireturn, 1) := by decide +kernel
theorem dX12_assize_71 : decode cX12_assize 71 = .ok (.aload_n 0, 1) := by decide +kernel
theorem dX12_assize_72 : decode cX12_assize 72 = .ok (.getfield 9, 3) := by decide +kernel
theorem dX12_assize_75 : decode cX12_assize 75 = .ok (.aload_n 0, 1) := by decide +kernel
theorem dX12_assize_76 : decode cX12_assize 76 = .ok (.getfield 65, 3) := by decide +kernel
theorem dX12_assize_79 : decode cX12_assize 79 = .ok (.iconst 0, 1) := by decide +kernel
theorem dX12_assize_80 : decode cX12_assize 80 = .ok (.invokestatic 242, 3) := by decide +kernel
theorem dX12_assize_83 : decode cX12_assize 83 = .ok (.iconst 0, 1) := by decide +kernel
theorem dX12_assize_84 : decode cX12_assize 84 = .ok (.istore_n 3, 1) := by decide +kernel
theorem dX12_assize_85 : decode cX12_assize 85 = .ok (.iload_n 3, 1) := by decide +kernel
theorem dX12_assize_86 : decode cX12_assize 86 = .ok (.iload_n 1, 1) := by decide +kernel
theorem dX12_assize_87 : decode cX12_assize 87 = .ok (.if_icmp .ge 44, 3) := by decide +kernel
theorem dX12_assize_90 : decode cX12_assize 90 = .ok (.aload_n 0, 1) := by decide +kernel
theorem dX12_assize_91 : decode cX12_assize 91 = .ok (.aload_n 0, 1) := by decide +kernel
theorem dX12_assize_92 : decode cX12_assize 92 = .ok (.getfield 71, 3) := by decide +kernel
theorem dX12_assize_95 : decode cX12_assize 95 = .ok (.iconst 3, 1) := by decide +kernel
theorem dX12_assize_96 : decode cX12_assize 96 = .ok (.iload_n 3, 1) := by decide +kernel
theorem dX12_assize_97 : decode cX12_assize 97 = .ok (.imul, 1) := by decide +kernel
theorem dX12_assize_98 : decode cX12_assize 98 = .ok (.iaload, 1) := by decide +kernel
theorem dX12_assize_99 : decode cX12_assize 99 = .ok (.aload_n 0, 1) := by decide +kernel
theorem dX12_assize_100 : decode cX12_assize 100 = .ok (.getfield 71, 3) := by decide +kernel
theorem dX12_assize_103 : decode cX12_assize 103 = .ok (.iconst 3, 1) := by decide +kernel
theorem dX12_assize_104 : decode cX12_assize 104 = .ok (.iload_n 3, 1) := by decide +kernel
theorem dX12_assize_105 : decode cX12_assize 105 = .ok (.imul, 1) := by decide +kernel
theorem dX12_assize_106 : decode cX12_assize 106 = .ok (.iconst 1, 1) := by decide +kernel
theorem dX12_assize_107 : decode cX12_assize 107 = .ok (.iadd, 1) := by decide +kernel
theorem dX12_assize_108 : decode cX12_assize 108 = .ok (.iaload, 1) := by decide +kernel
theorem dX12_assize_109 : decode cX12_assize 109 = .ok (.aload_n 0, 1) := by decide +kernel
theorem dX12_assize_110 : decode cX12_assize 110 = .ok (.getfield 71, 3) := by decide +kernel
theorem dX12_assize_113 : decode cX12_assize 113 = .ok (.iconst 3, 1) := by decide +kernel
theorem dX12_assize_114 : decode cX12_assize 114 = .ok (.iload_n 3, 1) := by decide +kernel
theorem dX12_assize_115 : decode cX12_assize 115 = .ok (.imul, 1) := by decide +kernel
theorem dX12_assize_116 : decode cX12_assize 116 = .ok (.iconst 2, 1) := by decide +kernel
theorem dX12_assize_117 : decode cX12_assize 117 = .ok (.iadd, 1) := by decide +kernel
theorem dX12_assize_118 : decode cX12_assize 118 = .ok (.iaload, 1) := by decide +kernel
theorem dX12_assize_119 : decode cX12_assize 119 = .ok (.invokevirtual 280, 3) := by decide +kernel
theorem dX12_assize_122 : decode cX12_assize 122 = .ok (.ifCond .eq 9, 3) := by decide +kernel
theorem dX12_assize_125 : decode cX12_assize 125 = .ok (.iinc 3 1, 3) := by decide +kernel
theorem dX12_assize_128 : decode cX12_assize 128 = .ok (.goto (-43), 3) := by decide +kernel
theorem dX12_assize_131 : decode cX12_assize 131 = .ok (.iload_n 3, 1) := by decide +kernel
theorem dX12_assize_132 : decode cX12_assize 132 = .ok (.ifCond .le 11, 3) := by decide +kernel
theorem dX12_assize_135 : decode cX12_assize 135 = .ok (.aload_n 0, 1) := by decide +kernel
theorem dX12_assize_136 : decode cX12_assize 136 = .ok (.aload_n 0, 1) := by decide +kernel
theorem dX12_assize_137 : decode cX12_assize 137 = .ok (.getfield 65, 3) := by decide +kernel
theorem dX12_assize_140 : decode cX12_assize 140 = .ok (.invokevirtual 249, 3) := by decide +kernel
theorem dX12_assize_143 : decode cX12_assize 143 = .ok (.aload_n 0, 1) := by decide +kernel
theorem dX12_assize_144 : decode cX12_assize 144 = .ok (.iconst 0, 1) := by decide +kernel
theorem dX12_assize_145 : decode cX12_assize 145 = .ok (.putfield 98, 3) := by decide +kernel
theorem dX12_assize_148 : decode cX12_assize 148 = .ok (.aload_n 0, 1) := by decide +kernel
theorem dX12_assize_149 : decode cX12_assize 149 = .ok (.iload_n 3, 1) := by decide +kernel
theorem dX12_assize_150 : decode cX12_assize 150 = .ok (.iload_n 1, 1) := by decide +kernel
theorem dX12_assize_151 : decode cX12_assize 151 = .ok (.if_icmp .ge 7, 3) := by decide +kernel
theorem dX12_assize_154 : decode cX12_assize 154 = .ok (.lconst 1, 1) := by decide +kernel
theorem dX12_assize_155 : decode cX12_assize 155 = .ok (.goto 4, 3) := by decide +kernel
theorem dX12_assize_158 : decode cX12_assize 158 = .ok (.lconst 0, 1) := by decide +kernel
theorem dX12_assize_159 : decode cX12_assize 159 = .ok (.invokevirtual 267, 3) := by decide +kernel
theorem dX12_assize_162 : decode cX12_assize 162 = .ok (.aload_n 0, 1) := by decide +kernel
theorem dX12_assize_163 : decode cX12_assize 163 = .ok (.aload_n 0, 1) := by decide +kernel
theorem dX12_assize_164 : decode cX12_assize 164 = .ok (.getfield 9, 3) := by decide +kernel
theorem dX12_assize_167 : decode cX12_assize 167 = .ok (.bipush 26, 2) := by decide +kernel
theorem dX12_assize_169 : decode cX12_assize 169 = .ok (.iaload, 1) := by decide +kernel
theorem dX12_assize_170 : decode cX12_assize 170 = .ok (.i2l, 1) := by decide +kernel
theorem dX12_assize_171 : decode cX12_assize 171 = .ok (.invokevirtual 267, 3) := by decide +kernel
theorem dX12_assize_174 : decode cX12_assize 174 = .ok (.iload_n 3, 1) := by decide +kernel
theorem dX12_assize_175 : decode cX12_assize 175 = .ok (.ireturn, 1) := by decide +kernel
theorem dX6_restore_0 : decode cX6_restore 0 = .ok (.aload_n 0, 1) := by decide +kernel
theorem dX6_restore_1 : decode cX6_restore 1 = .ok (.getfield 19, 3) := by decide +kernel
theorem dX6_restore_4 : decode cX6_restore 4 = .ok (.ifCond .ne 5, 3) := by decide +kernel
theorem dX6_restore_7 : decode cX6_restore 7 = .ok (.iconst 0, 1) := by decide +kernel
theorem dX6_restore_8 : decode cX6_restore 8 = .ok (.ireturn, 1) := by decide +kernel
theorem dX6_restore_9 : decode cX6_restore 9 = .ok (.aload_n 0, 1) := by decide +kernel
theorem dX6_restore_10 : decode cX6_restore 10 = .ok (.aload_n 0, 1) := by decide +kernel
theorem dX6_restore_11 : decode cX6_restore 11 = .ok (.getfield 15, 3) := by decide +kernel
theorem dX6_restore_14 : decode cX6_restore 14 = .ok (.bipush 13, 2) := by decide +kernel
theorem dX6_restore_16 : decode cX6_restore 16 = .ok (.iadd, 1) := by decide +kernel
theorem dX6_restore_17 : decode cX6_restore 17 = .ok (.iconst 1, 1) := by decide +kernel
theorem dX6_restore_18 : decode cX6_restore 18 = .ok (.isub, 1) := by decide +kernel
theorem dX6_restore_19 : decode cX6_restore 19 = .ok (.bipush 13, 2) := by decide +kernel
theorem dX6_restore_21 : decode cX6_restore 21 = .ok (.irem, 1) := by decide +kernel
theorem dX6_restore_22 : decode cX6_restore 22 = .ok (.putfield 15, 3) := by decide +kernel
theorem dX6_restore_25 : decode cX6_restore 25 = .ok (.aload_n 0, 1) := by decide +kernel
theorem dX6_restore_26 : decode cX6_restore 26 = .ok (.dup, 1) := by decide +kernel
theorem dX6_restore_27 : decode cX6_restore 27 = .ok (.getfield 19, 3) := by decide +kernel
theorem dX6_restore_30 : decode cX6_restore 30 = .ok (.iconst 1, 1) := by decide +kernel
theorem dX6_restore_31 : decode cX6_restore 31 = .ok (.isub, 1) := by decide +kernel
theorem dX6_restore_32 : decode cX6_restore 32 = .ok (.putfield 19, 3) := by decide +kernel
theorem dX6_restore_35 : decode cX6_restore 35 = .ok (.aload_n 1, 1) := by decide +kernel
theorem dX6_restore_36 : decode cX6_restore 36 = .ok (.aload_n 0, 1) := by decide +kernel
theorem dX6_restore_37 : decode cX6_restore 37 = .ok (.getfield 11, 3) := by decide +kernel
theorem dX6_restore_40 : decode cX6_restore 40 = .ok (.aload_n 0, 1) := by decide +kernel
theorem dX6_restore_41 : decode cX6_restore 41 = .ok (.getfield 15, 3) := by decide +kernel
theorem dX6_restore_44 : decode cX6_restore 44 = .ok (.aaload, 1) := by decide +kernel
theorem dX6_restore_45 : decode cX6_restore 45 = .ok (.invokevirtual 25, 3) := by decide +kernel
theorem dX6_restore_48 : decode cX6_restore 48 = .ok (.iconst 1, 1) := by decide +kernel
theorem dX6_restore_49 : decode cX6_restore 49 = .ok (.ireturn, 1) := by decide +kernel
theorem dX11_undo_0 : decode cX11_undo 0 = .ok (.aload_n 0, 1) := by decide +kernel
theorem dX11_undo_1 : decode cX11_undo 1 = .ok (.getfield 75, 3) := by decide +kernel
theorem dX11_undo_4 : decode cX11_undo 4 = .ok (.aload_n 0, 1) := by decide +kernel
theorem dX11_undo_5 : decode cX11_undo 5 = .ok (.getfield 65, 3) := by decide +kernel
theorem dX11_undo_8 : decode cX11_undo 8 = .ok (.invokevirtual 252, 3) := by decide +kernel
theorem dX11_undo_11 : decode cX11_undo 11 = .ok (.ifCond .ne 5, 3) := by decide +kernel
theorem dX11_undo_14 : decode cX11_undo 14 = .ok (.iconst (-1), 1) := by decide +kernel
theorem dX11_undo_15 : decode cX11_undo 15 = .ok (.ireturn, 1) := by decide +kernel
theorem dX11_undo_16 : decode cX11_undo 16 = .ok (.aload_n 0, 1) := by decide +kernel
theorem dX11_undo_17 : decode cX11_undo 17 = .ok (.getfield 75, 3) := by decide +kernel
theorem dX11_undo_20 : decode cX11_undo 20 = .ok (.getfield 256, 3) := by decide +kernel
theorem dX11_undo_23 : decode cX11_undo 23 = .ok (.ireturn, 1) := by decide +kernel
theorem dX12_undo_0 : decode cX12_undo 0 = .ok (.aload_n 0, 1) := by decide +kernel
theorem dX12_undo_1 : decode cX12_undo 1 = .ok (.iconst 0, 1) := by decide +kernel
theorem dX12_undo_2 : decode cX12_undo 2 = .ok (.putfield 95, 3) := by decide +kernel
theorem dX12_undo_5 : decode cX12_undo 5 = .ok (.aload_n 0, 1) := by decide +kernel
theorem dX12_undo_6 : decode cX12_undo 6 = .ok (.getfield 175, 3) := by decide +kernel
theorem dX12_undo_9 : decode cX12_undo 9 = .ok (.ifCond .ne 5, 3) := by decide +kernel
theorem dX12_undo_12 : decode cX12_undo 12 = .ok (.iconst (-1), 1) := by decide +kernel
theorem dX12_undo_13 : decode cX12_undo 13 = .ok (.ireturn, 1) := by decide +kernel
theorem dX12_undo_14 : decode cX12_undo 14 = .ok (.aload_n 0, 1) := by decide +kernel
theorem dX12_undo_15 : decode cX12_undo 15 = .ok (.dup, 1) := by decide +kernel
theorem dX12_undo_16 : decode cX12_undo 16 = .ok (.getfield 175, 3) := by decide +kernel
theorem dX12_undo_19 : decode cX12_undo 19 = .ok (.iconst 1, 1) := by decide +kernel
theorem dX12_undo_20 : decode cX12_undo 20 = .ok (.isub, 1) := by decide +kernel
theorem dX12_undo_21 : decode cX12_undo 21 = .ok (.putfield 175, 3) := by decide +kernel
theorem dX12_undo_24 : decode cX12_undo 24 = .ok (.iconst 0, 1) := by decide +kernel
theorem dX12_undo_25 : decode cX12_undo 25 = .ok (.istore_n 1, 1) := by decide +kernel
theorem dX12_undo_26 : decode cX12_undo 26 = .ok (.iload_n 1, 1) := by decide +kernel
theorem dX12_undo_27 : decode cX12_undo 27 = .ok (.bipush 27, 2) := by decide +kernel
theorem dX12_undo_29 : decode cX12_undo 29 = .ok (.if_icmp .ge 29, 3) := by decide +kernel
theorem dX12_undo_32 : decode cX12_undo 32 = .ok (.aload_n 0, 1) := by decide +kernel
theorem dX12_undo_33 : decode cX12_undo 33 = .ok (.getfield 9, 3) := by decide +kernel
theorem dX12_undo_36 : decode cX12_undo 36 = .ok (.iload_n 1, 1) := by decide +kernel
theorem dX12_undo_37 : decode cX12_undo 37 = .ok (.aload_n 0, 1) := by decide +kernel
theorem dX12_undo_38 : decode cX12_undo 38 = .ok (.getfield 62, 3) := by decide +kernel
theorem dX12_undo_41 : decode cX12_undo 41 = .ok (.bipush 27, 2) := by decide +kernel
theorem dX12_undo_43 : decode cX12_undo 43 = .ok (.aload_n 0, 1) := by decide +kernel
theorem dX12_undo_44 : decode cX12_undo 44 = .ok (.getfield 175, 3) := by decide +kernel
theorem dX12_undo_47 : decode cX12_undo 47 = .ok (.imul, 1) := by decide +kernel
theorem dX12_undo_48 : decode cX12_undo 48 = .ok (.iload_n 1, 1) := by decide +kernel
theorem dX12_undo_49 : decode cX12_undo 49 = .ok (.iadd, 1) := by decide +kernel
theorem dX12_undo_50 : decode cX12_undo 50 = .ok (.iaload, 1) := by decide +kernel
theorem dX12_undo_51 : decode cX12_undo 51 = .ok (.iastore, 1) := by decide +kernel
theorem dX12_undo_52 : decode cX12_undo 52 = .ok (.iinc 1 1, 3) := by decide +kernel
theorem dX12_undo_55 : decode cX12_undo 55 = .ok (.goto (-29), 3) := by decide +kernel
theorem dX12_undo_58 : decode cX12_undo 58 = .ok (.aload_n 0, 1) := by decide +kernel
theorem dX12_undo_59 : decode cX12_undo 59 = .ok (.getfield 175, 3) := by decide +kernel
theorem dX12_undo_62 : decode cX12_undo 62 = .ok (.ireturn, 1) := by decide +kernel
theorem dX11_isThere_0 : decode cX11_isThere 0 = .ok (.iload_n 1, 1) := by decide +kernel
theorem dX11_isThere_1 : decode cX11_isThere 1 = .ok (.ifCond .lt 18, 3) := by decide +kernel
theorem dX11_isThere_4 : decode cX11_isThere 4 = .ok (.iload_n 1, 1) := by decide +kernel
theorem dX11_isThere_5 : decode cX11_isThere 5 = .ok (.aload_n 0, 1) := by decide +kernel
theorem dX11_isThere_6 : decode cX11_isThere 6 = .ok (.getfield 26, 3) := by decide +kernel
theorem dX11_isThere_9 : decode cX11_isThere 9 = .ok (.getfield 119, 3) := by decide +kernel
theorem dX11_isThere_12 : decode cX11_isThere 12 = .ok (.if_icmp .ge 7, 3) := by decide +kernel
theorem dX11_isThere_15 : decode cX11_isThere 15 = .ok (.iconst 1, 1) := by decide +kernel
theorem dX11_isThere_16 : decode cX11_isThere 16 = .ok (.goto 4, 3) := by decide +kernel
theorem dX11_isThere_19 : decode cX11_isThere 19 = .ok (.iconst 0, 1) := by decide +kernel
theorem dX11_isThere_20 : decode cX11_isThere 20 = .ok (.ireturn, 1) := by decide +kernel
theorem dX4_leftIn_0 : decode cX4_leftIn 0 = .ok (.aload_n 0, 1) := by decide +kernel
theorem dX4_leftIn_1 : decode cX4_leftIn 1 = .ok (.iload_n 1, 1) := by decide +kernel
theorem dX4_leftIn_2 : decode cX4_leftIn 2 = .ok (.iload_n 2, 1) := by decide +kernel
theorem dX4_leftIn_3 : decode cX4_leftIn 3 = .ok (.iload_n 2, 1) := by decide +kernel
theorem dX4_leftIn_4 : decode cX4_leftIn 4 = .ok (.ifCond .le 14, 3) := by decide +kernel
theorem dX4_leftIn_7 : decode cX4_leftIn 7 = .ok (.aload_n 0, 1) := by decide +kernel
theorem dX4_leftIn_8 : decode cX4_leftIn 8 = .ok (.getfield 18, 3) := by decide +kernel
theorem dX4_leftIn_11 : decode cX4_leftIn 11 = .ok (.iload_n 1, 1) := by decide +kernel
theorem dX4_leftIn_12 : decode cX4_leftIn 12 = .ok (.iaload, 1) := by decide +kernel
theorem dX4_leftIn_13 : decode cX4_leftIn 13 = .ok (.iload_n 3, 1) := by decide +kernel
theorem dX4_leftIn_14 : decode cX4_leftIn 14 = .ok (.iadd, 1) := by decide +kernel
theorem dX4_leftIn_15 : decode cX4_leftIn 15 = .ok (.goto 9, 3) := by decide +kernel
theorem dX4_leftIn_18 : decode cX4_leftIn 18 = .ok (.aload_n 0, 1) := by decide +kernel
theorem dX4_leftIn_19 : decode cX4_leftIn 19 = .ok (.getfield 18, 3) := by decide +kernel
theorem dX4_leftIn_22 : decode cX4_leftIn 22 = .ok (.iload_n 1, 1) := by decide +kernel
theorem dX4_leftIn_23 : decode cX4_leftIn 23 = .ok (.iaload, 1) := by decide +kernel
theorem dX4_leftIn_24 : decode cX4_leftIn 24 = .ok (.aload_n 0, 1) := by decide +kernel
theorem dX4_leftIn_25 : decode cX4_leftIn 25 = .ok (.getfield 24, 3) := by decide +kernel
theorem dX4_leftIn_28 : decode cX4_leftIn 28 = .ok (.iload_n 3, 1) := by decide +kernel
theorem dX4_leftIn_29 : decode cX4_leftIn 29 = .ok (.iadd, 1) := by decide +kernel
theorem dX4_leftIn_30 : decode cX4_leftIn 30 = .ok (.invokevirtual 115, 3) := by decide +kernel
theorem dX4_leftIn_33 : decode cX4_leftIn 33 = .ok (.ireturn, 1) := by decide +kernel
theorem dX11_left_0 : decode cX11_left 0 = .ok (.aload_n 0, 1) := by decide +kernel
theorem dX11_left_1 : decode cX11_left 1 = .ok (.iload_n 1, 1) := by decide +kernel
theorem dX11_left_2 : decode cX11_left 2 = .ok (.invokevirtual 147, 3) := by decide +kernel
theorem dX11_left_5 : decode cX11_left 5 = .ok (.ifCond .eq 13, 3) := by decide +kernel
theorem dX11_left_8 : decode cX11_left 8 = .ok (.iload_n 2, 1) := by decide +kernel
theorem dX11_left_9 : decode cX11_left 9 = .ok (.ifCond .lt 9, 3) := by decide +kernel
theorem dX11_left_12 : decode cX11_left 12 = .ok (.iload_n 2, 1) := by decide +kernel
theorem dX11_left_13 : decode cX11_left 13 = .ok (.bipush 60, 2) := by decide +kernel
theorem dX11_left_15 : decode cX11_left 15 = .ok (.if_icmp .le 5, 3) := by decide +kernel
theorem dX11_left_18 : decode cX11_left 18 = .ok (.iconst (-1), 1) := by decide +kernel
theorem dX11_left_19 : decode cX11_left 19 = .ok (.ireturn, 1) := by decide +kernel
theorem dX11_left_20 : decode cX11_left 20 = .ok (.sipush 1000, 3) := by decide +kernel
theorem dX11_left_23 : decode cX11_left 23 = .ok (.aload_n 0, 1) := by decide +kernel
theorem dX11_left_24 : decode cX11_left 24 = .ok (.getfield 65, 3) := by decide +kernel
theorem dX11_left_27 : decode cX11_left 27 = .ok (.iload_n 1, 1) := by decide +kernel
theorem dX11_left_28 : decode cX11_left 28 = .ok (.aload_n 0, 1) := by decide +kernel
theorem dX11_left_29 : decode cX11_left 29 = .ok (.getfield 65, 3) := by decide +kernel
theorem dX11_left_32 : decode cX11_left 32 = .ok (.getfield 175, 3) := by decide +kernel
theorem dX11_left_35 : decode cX11_left 35 = .ok (.iload_n 1, 1) := by decide +kernel
theorem dX11_left_36 : decode cX11_left 36 = .ok (.iaload, 1) := by decide +kernel
theorem dX11_left_37 : decode cX11_left 37 = .ok (.iload_n 2, 1) := by decide +kernel
theorem dX11_left_38 : decode cX11_left 38 = .ok (.invokevirtual 257, 3) := by decide +kernel
theorem dX11_left_41 : decode cX11_left 41 = .ok (.iadd, 1) := by decide +kernel
theorem dX11_left_42 : decode cX11_left 42 = .ok (.ireturn, 1) := by decide +kernel
theorem dX12_left_0 : decode cX12_left 0 = .ok (.aload_n 0, 1) := by decide +kernel
theorem dX12_left_1 : decode cX12_left 1 = .ok (.iconst 0, 1) := by decide +kernel
theorem dX12_left_2 : decode cX12_left 2 = .ok (.putfield 95, 3) := by decide +kernel
theorem dX12_left_5 : decode cX12_left 5 = .ok (.aload_n 0, 1) := by decide +kernel
theorem dX12_left_6 : decode cX12_left 6 = .ok (.iload_n 1, 1) := by decide +kernel
theorem dX12_left_7 : decode cX12_left 7 = .ok (.invokevirtual 224, 3) := by decide +kernel
theorem dX12_left_10 : decode cX12_left 10 = .ok (.ifCond .eq 13, 3) := by decide +kernel
theorem dX12_left_13 : decode cX12_left 13 = .ok (.iload_n 2, 1) := by decide +kernel
theorem dX12_left_14 : decode cX12_left 14 = .ok (.iconst 0, 1) := by decide +kernel
theorem dX12_left_15 : decode cX12_left 15 = .ok (.bipush 60, 2) := by decide +kernel
theorem dX12_left_17 : decode cX12_left 17 = .ok (.invokestatic 104, 3) := by decide +kernel
theorem dX12_left_20 : decode cX12_left 20 = .ok (.ifCond .ne 5, 3) := by decide +kernel
theorem dX12_left_23 : decode cX12_left 23 = .ok (.iconst (-1), 1) := by decide +kernel
theorem dX12_left_24 : decode cX12_left 24 = .ok (.ireturn, 1) := by decide +kernel
theorem dX12_left_25 : decode cX12_left 25 = .ok (.aload_n 0, 1) := by decide +kernel
theorem dX12_left_26 : decode cX12_left 26 = .ok (.getfield 9, 3) := by decide +kernel
theorem dX12_left_29 : decode cX12_left 29 = .ok (.bipush 6, 2) := by decide +kernel
theorem dX12_left_31 : decode cX12_left 31 = .ok (.iload_n 1, 1) := by decide +kernel
theorem dX12_left_32 : decode cX12_left 32 = .ok (.iadd, 1) := by decide +kernel
theorem dX12_left_33 : decode cX12_left 33 = .ok (.iaload, 1) := by decide +kernel
theorem dX12_left_34 : decode cX12_left 34 = .ok (.istore_n 3, 1) := by decide +kernel
theorem dX12_left_35 : decode cX12_left 35 = .ok (.sipush 1000, 3) := by decide +kernel
theorem dX12_left_38 : decode cX12_left 38 = .ok (.aload_n 0, 1) := by decide +kernel
theorem dX12_left_39 : decode cX12_left 39 = .ok (.iload_n 1, 1) := by decide +kernel
theorem dX12_left_40 : decode cX12_left 40 = .ok (.iload_n 3, 1) := by decide +kernel
theorem dX12_left_41 : decode cX12_left 41 = .ok (.aload_n 0, 1) := by decide +kernel
theorem dX12_left_42 : decode cX12_left 42 = .ok (.getfield 9, 3) := by decide +kernel
theorem dX12_left_45 : decode cX12_left 45 = .ok (.bipush 12, 2) := by decide +kernel
theorem dX12_left_47 : decode cX12_left 47 = .ok (.iload_n 1, 1) := by decide +kernel
theorem dX12_left_48 : decode cX12_left 48 = .ok (.iadd, 1) := by decide +kernel
theorem dX12_left_49 : decode cX12_left 49 = .ok (.iaload, 1) := by decide +kernel
theorem dX12_left_50 : decode cX12_left 50 = .ok (.iload_n 3, 1) := by decide +kernel
theorem dX12_left_51 : decode cX12_left 51 = .ok (.ifCond .le 7, 3) := by decide +kernel
theorem dX12_left_54 : decode cX12_left 54 = .ok (.iload_n 2, 1) := by decide +kernel
theorem dX12_left_55 : decode cX12_left 55 = .ok (.goto 4, 3) := by decide +kernel
theorem dX12_left_58 : decode cX12_left 58 = .ok (.iconst 0, 1) := by decide +kernel
theorem dX12_left_59 : decode cX12_left 59 = .ok (.iadd, 1) := by decide +kernel
theorem dX12_left_60 : decode cX12_left 60 = .ok (.aload_n 0, 1) := by decide +kernel
theorem dX12_left_61 : decode cX12_left 61 = .ok (.getfield 9, 3) := by decide +kernel
theorem dX12_left_64 : decode cX12_left 64 = .ok (.bipush 26, 2) := by decide +kernel
theorem dX12_left_66 : decode cX12_left 66 = .ok (.iaload, 1) := by decide +kernel
theorem dX12_left_67 : decode cX12_left 67 = .ok (.iload_n 2, 1) := by decide +kernel
theorem dX12_left_68 : decode cX12_left 68 = .ok (.iadd, 1) := by decide +kernel
theorem dX12_left_69 : decode cX12_left 69 = .ok (.invokevirtual 220, 3) := by decide +kernel
theorem dX12_left_72 : decode cX12_left 72 = .ok (.iadd, 1) := by decide +kernel
theorem dX12_left_73 : decode cX12_left 73 = .ok (.ireturn, 1) := by decide +kernel
theorem dX4_leftDying_0 : decode cX4_leftDying 0 = .ok (.aload_n 0, 1) := by decide +kernel
theorem dX4_leftDying_1 : decode cX4_leftDying 1 = .ok (.iload_n 1, 1) := by decide +kernel
theorem dX4_leftDying_2 : decode cX4_leftDying 2 = .ok (.iload_n 2, 1) := by decide +kernel
theorem dX4_leftDying_3 : decode cX4_leftDying 3 = .ok (.aload_n 0, 1) := by decide +kernel
theorem dX4_leftDying_4 : decode cX4_leftDying 4 = .ok (.getfield 18, 3) := by decide +kernel
theorem dX4_leftDying_7 : decode cX4_leftDying 7 = .ok (.iload_n 1, 1) := by decide +kernel
theorem dX4_leftDying_8 : decode cX4_leftDying 8 = .ok (.iaload, 1) := by decide +kernel
theorem dX4_leftDying_9 : decode cX4_leftDying 9 = .ok (.iload_n 3, 1) := by decide +kernel
theorem dX4_leftDying_10 : decode cX4_leftDying 10 = .ok (.iadd, 1) := by decide +kernel
theorem dX4_leftDying_11 : decode cX4_leftDying 11 = .ok (.aload_n 0, 1) := by decide +kernel
theorem dX4_leftDying_12 : decode cX4_leftDying 12 = .ok (.getfield 24, 3) := by decide +kernel
theorem dX4_leftDying_15 : decode cX4_leftDying 15 = .ok (.iload_n 3, 1) := by decide +kernel
theorem dX4_leftDying_16 : decode cX4_leftDying 16 = .ok (.iadd, 1) := by decide +kernel
theorem dX4_leftDying_17 : decode cX4_leftDying 17 = .ok (.iconst 1, 1) := by decide +kernel
theorem dX4_leftDying_18 : decode cX4_leftDying 18 = .ok (.isub, 1) := by decide +kernel
theorem dX4_leftDying_19 : decode cX4_leftDying 19 = .ok (.invokevirtual 115, 3) := by decide +kernel
theorem dX4_leftDying_22 : decode cX4_leftDying 22 = .ok (.ireturn, 1) := by decide +kernel
theorem dX4_diesIn_0 : decode cX4_diesIn 0 = .ok (.iload_n 2, 1) := by decide +kernel
theorem dX4_diesIn_1 : decode cX4_diesIn 1 = .ok (.ifCond .gt 6, 3) := by decide +kernel
theorem dX4_diesIn_4 : decode cX4_diesIn 4 = .ok (.bipush (-2), 2) := by decide +kernel
theorem dX4_diesIn_6 : decode cX4_diesIn 6 = .ok (.ireturn, 1) := by decide +kernel
theorem dX4_diesIn_7 : decode cX4_diesIn 7 = .ok (.iconst 1, 1) := by decide +kernel
theorem dX4_diesIn_8 : decode cX4_diesIn 8 = .ok (.istore 5, 2) := by decide +kernel
theorem dX4_diesIn_10 : decode cX4_diesIn 10 = .ok (.iload 5, 2) := by decide +kernel
theorem dX4_diesIn_12 : decode cX4_diesIn 12 = .ok (.iload_n 3, 1) := by decide +kernel
theorem dX4_diesIn_13 : decode cX4_diesIn 13 = .ok (.if_icmp .gt 38, 3) := by decide +kernel
theorem dX4_diesIn_16 : decode cX4_diesIn 16 = .ok (.aload_n 0, 1) := by decide +kernel
theorem dX4_diesIn_17 : decode cX4_diesIn 17 = .ok (.iload_n 1, 1) := by decide +kernel
theorem dX4_diesIn_18 : decode cX4_diesIn 18 = .ok (.iload_n 2, 1) := by decide +kernel
theorem dX4_diesIn_19 : decode cX4_diesIn 19 = .ok (.iload 5, 2) := by decide +kernel
theorem dX4_diesIn_21 : decode cX4_diesIn 21 = .ok (.invokevirtual 136, 3) := by decide +kernel
theorem dX4_diesIn_24 : decode cX4_diesIn 24 = .ok (.ifCond .gt 6, 3) := by decide +kernel
theorem dX4_diesIn_27 : decode cX4_diesIn 27 = .ok (.iload 5, 2) := by decide +kernel
theorem dX4_diesIn_29 : decode cX4_diesIn 29 = .ok (.ireturn, 1) := by decide +kernel
theorem dX4_diesIn_30 : decode cX4_diesIn 30 = .ok (.aload_n 0, 1) := by decide +kernel
theorem dX4_diesIn_31 : decode cX4_diesIn 31 = .ok (.getfield 24, 3) := by decide +kernel
theorem dX4_diesIn_34 : decode cX4_diesIn 34 = .ok (.iload 5, 2) := by decide +kernel
theorem dX4_diesIn_36 : decode cX4_diesIn 36 = .ok (.iadd, 1) := by decide +kernel
theorem dX4_diesIn_37 : decode cX4_diesIn 37 = .ok (.iload 4, 2) := by decide +kernel
theorem dX4_diesIn_39 : decode cX4_diesIn 39 = .ok (.if_icmp .ne 6, 3) := by decide +kernel
theorem dX4_diesIn_42 : decode cX4_diesIn 42 = .ok (.bipush (-2), 2) := by decide +kernel
theorem dX4_diesIn_44 : decode cX4_diesIn 44 = .ok (.ireturn, 1) := by decide +kernel
theorem dX4_diesIn_45 : decode cX4_diesIn 45 = .ok (.iinc 5 1, 3) := by decide +kernel
theorem dX4_diesIn_48 : decode cX4_diesIn 48 = .ok (.goto (-38), 3) := by decide +kernel
theorem dX4_diesIn_51 : decode cX4_diesIn 51 = .ok (.bipush (-2), 2) := by decide +kernel
theorem dX4_diesIn_53 : decode cX4_diesIn 53 = .ok (.ireturn, 1) := by decide +kernel
theorem dX11_dies_0 : decode cX11_dies 0 = .ok (.aload_n 0, 1) := by decide +kernel
theorem dX11_dies_1 : decode cX11_dies 1 = .ok (.iload_n 1, 1) := by decide +kernel
theorem dX11_dies_2 : decode cX11_dies 2 = .ok (.invokevirtual 147, 3) := by decide +kernel
theorem dX11_dies_5 : decode cX11_dies 5 = .ok (.ifCond .ne 5, 3) := by decide +kernel
theorem dX11_dies_8 : decode cX11_dies 8 = .ok (.iconst (-1), 1) := by decide +kernel
theorem dX11_dies_9 : decode cX11_dies 9 = .ok (.ireturn, 1) := by decide +kernel
theorem dX11_dies_10 : decode cX11_dies 10 = .ok (.aload_n 0, 1) := by decide +kernel
theorem dX11_dies_11 : decode cX11_dies 11 = .ok (.getfield 65, 3) := by decide +kernel
theorem dX11_dies_14 : decode cX11_dies 14 = .ok (.iload_n 1, 1) := by decide +kernel
theorem dX11_dies_15 : decode cX11_dies 15 = .ok (.invokevirtual 261, 3) := by decide +kernel
theorem dX11_dies_18 : decode cX11_dies 18 = .ok (.ifCond .ne 6, 3) := by decide +kernel
theorem dX11_dies_21 : decode cX11_dies 21 = .ok (.bipush (-3), 2) := by decide +kernel
theorem dX11_dies_23 : decode cX11_dies 23 = .ok (.ireturn, 1) := by decide +kernel
theorem dX11_dies_24 : decode cX11_dies 24 = .ok (.aload_n 0, 1) := by decide +kernel
theorem dX11_dies_25 : decode cX11_dies 25 = .ok (.getfield 65, 3) := by decide +kernel
theorem dX11_dies_28 : decode cX11_dies 28 = .ok (.getfield 175, 3) := by decide +kernel
theorem dX11_dies_31 : decode cX11_dies 31 = .ok (.iload_n 1, 1) := by decide +kernel
theorem dX11_dies_32 : decode cX11_dies 32 = .ok (.iaload, 1) := by decide +kernel
theorem dX11_dies_33 : decode cX11_dies 33 = .ok (.istore_n 2, 1) := by decide +kernel
theorem dX11_dies_34 : decode cX11_dies 34 = .ok (.aload_n 0, 1) := by decide +kernel
theorem dX11_dies_35 : decode cX11_dies 35 = .ok (.getfield 65, 3) := by decide +kernel
theorem dX11_dies_38 : decode cX11_dies 38 = .ok (.iload_n 1, 1) := by decide +kernel
theorem dX11_dies_39 : decode cX11_dies 39 = .ok (.iload_n 2, 1) := by decide +kernel
theorem dX11_dies_40 : decode cX11_dies 40 = .ok (.bipush 60, 2) := by decide +kernel
theorem dX11_dies_42 : decode cX11_dies 42 = .ok (.aload_n 0, 1) := by decide +kernel
theorem dX11_dies_43 : decode cX11_dies 43 = .ok (.getfield 100, 3) := by decide +kernel
theorem dX11_dies_46 : decode cX11_dies 46 = .ok (.invokevirtual 264, 3) := by decide +kernel
theorem dX11_dies_49 : decode cX11_dies 49 = .ok (.istore_n 3, 1) := by decide +kernel
theorem dX11_dies_50 : decode cX11_dies 50 = .ok (.iload_n 3, 1) := by decide +kernel
theorem dX11_dies_51 : decode cX11_dies 51 = .ok (.ifCond .le 21, 3) := by decide +kernel
theorem dX11_dies_54 : decode cX11_dies 54 = .ok (.aload_n 0, 1) := by decide +kernel
theorem dX11_dies_55 : decode cX11_dies 55 = .ok (.getfield 19, 3) := by decide +kernel
theorem dX11_dies_58 : decode cX11_dies 58 = .ok (.aload_n 0, 1) := by decide +kernel
theorem dX11_dies_59 : decode cX11_dies 59 = .ok (.getfield 65, 3) := by decide +kernel
theorem dX11_dies_62 : decode cX11_dies 62 = .ok (.iload_n 1, 1) := by decide +kernel
theorem dX11_dies_63 : decode cX11_dies 63 = .ok (.iload_n 2, 1) := by decide +kernel
theorem dX11_dies_64 : decode cX11_dies 64 = .ok (.iload_n 3, 1) := by decide +kernel
theorem dX11_dies_65 : decode cX11_dies 65 = .ok (.invokevirtual 268, 3) := by decide +kernel
theorem dX11_dies_68 : decode cX11_dies 68 = .ok (.i2l, 1) := by decide +kernel
theorem dX11_dies_69 : decode cX11_dies 69 = .ok (.invokevirtual 228, 3) := by decide +kernel
theorem dX11_dies_72 : decode cX11_dies 72 = .ok (.iload_n 3, 1) := by decide +kernel
theorem dX11_dies_73 : decode cX11_dies 73 = .ok (.ireturn, 1) := by decide +kernel
theorem dX12_dieNight_0 : decode cX12_dieNight 0 = .ok (.iconst 1, 1) := by decide +kernel
theorem dX12_dieNight_1 : decode cX12_dieNight 1 = .ok (.istore 5, 2) := by decide +kernel
theorem dX12_dieNight_3 : decode cX12_dieNight 3 = .ok (.iload 5, 2) := by decide +kernel
theorem dX12_dieNight_5 : decode cX12_dieNight 5 = .ok (.iload_n 3, 1) := by decide +kernel
theorem dX12_dieNight_6 : decode cX12_dieNight 6 = .ok (.if_icmp .gt 81, 3) := by decide +kernel
theorem dX12_dieNight_9 : decode cX12_dieNight 9 = .ok (.iload_n 2, 1) := by decide +kernel
theorem dX12_dieNight_10 : decode cX12_dieNight 10 = .ok (.ifCond .le 77, 3) := by decide +kernel
theorem dX12_dieNight_13 : decode cX12_dieNight 13 = .ok (.aload_n 0, 1) := by decide +kernel
theorem dX12_dieNight_14 : decode cX12_dieNight 14 = .ok (.aload_n 0, 1) := by decide +kernel
theorem dX12_dieNight_15 : decode cX12_dieNight 15 = .ok (.iload_n 1, 1) := by decide +kernel
theorem dX12_dieNight_16 : decode cX12_dieNight 16 = .ok (.iload_n 2, 1) := by decide +kernel
theorem dX12_dieNight_17 : decode cX12_dieNight 17 = .ok (.aload_n 0, 1) := by decide +kernel
theorem dX12_dieNight_18 : decode cX12_dieNight 18 = .ok (.getfield 9, 3) := by decide +kernel
theorem dX12_dieNight_21 : decode cX12_dieNight 21 = .ok (.bipush 12, 2) := by decide +kernel
theorem dX12_dieNight_23 : decode cX12_dieNight 23 = .ok (.iload_n 1, 1) := by decide +kernel
theorem dX12_dieNight_24 : decode cX12_dieNight 24 = .ok (.iadd, 1) := by decide +kernel
theorem dX12_dieNight_25 : decode cX12_dieNight 25 = .ok (.iaload, 1) := by decide +kernel
theorem dX12_dieNight_26 : decode cX12_dieNight 26 = .ok (.iload 5, 2) := by decide +kernel
theorem dX12_dieNight_28 : decode cX12_dieNight 28 = .ok (.iadd, 1) := by decide +kernel
theorem dX12_dieNight_29 : decode cX12_dieNight 29 = .ok (.aload_n 0, 1) := by decide +kernel
theorem dX12_dieNight_30 : decode cX12_dieNight 30 = .ok (.getfield 9, 3) := by decide +kernel
theorem dX12_dieNight_33 : decode cX12_dieNight 33 = .ok (.bipush 26, 2) := by decide +kernel
theorem dX12_dieNight_35 : decode cX12_dieNight 35 = .ok (.iaload, 1) := by decide +kernel
theorem dX12_dieNight_36 : decode cX12_dieNight 36 = .ok (.iload 5, 2) := by decide +kernel
theorem dX12_dieNight_38 : decode cX12_dieNight 38 = .ok (.iadd, 1) := by decide +kernel
theorem dX12_dieNight_39 : decode cX12_dieNight 39 = .ok (.iconst 1, 1) := by decide +kernel
theorem dX12_dieNight_40 : decode cX12_dieNight 40 = .ok (.isub, 1) := by decide +kernel
theorem dX12_dieNight_41 : decode cX12_dieNight 41 = .ok (.invokevirtual 220, 3) := by decide +kernel
theorem dX12_dieNight_44 : decode cX12_dieNight 44 = .ok (.putfield 283, 3) := by decide +kernel
theorem dX12_dieNight_47 : decode cX12_dieNight 47 = .ok (.aload_n 0, 1) := by decide +kernel
theorem dX12_dieNight_48 : decode cX12_dieNight 48 = .ok (.getfield 283, 3) := by decide +kernel
theorem dX12_dieNight_51 : decode cX12_dieNight 51 = .ok (.ifCond .gt 6, 3) := by decide +kernel
theorem dX12_dieNight_54 : decode cX12_dieNight 54 = .ok (.iload 5, 2) := by decide +kernel
theorem dX12_dieNight_56 : decode cX12_dieNight 56 = .ok (.ireturn, 1) := by decide +kernel
theorem dX12_dieNight_57 : decode cX12_dieNight 57 = .ok (.iload 4, 2) := by decide +kernel
theorem dX12_dieNight_59 : decode cX12_dieNight 59 = .ok (.ifCond .eq 22, 3) := by decide +kernel
theorem dX12_dieNight_62 : decode cX12_dieNight 62 = .ok (.aload_n 0, 1) := by decide +kernel
theorem dX12_dieNight_63 : decode cX12_dieNight 63 = .ok (.getfield 9, 3) := by decide +kernel
theorem dX12_dieNight_66 : decode cX12_dieNight 66 = .ok (.bipush 26, 2) := by decide +kernel
theorem dX12_dieNight_68 : decode cX12_dieNight 68 = .ok (.iaload, 1) := by decide +kernel
theorem dX12_dieNight_69 : decode cX12_dieNight 69 = .ok (.iload 5, 2) := by decide +kernel
theorem dX12_dieNight_71 : decode cX12_dieNight 71 = .ok (.iadd, 1) := by decide +kernel
theorem dX12_dieNight_72 : decode cX12_dieNight 72 = .ok (.aload_n 0, 1) := by decide +kernel
theorem dX12_dieNight_73 : decode cX12_dieNight 73 = .ok (.getfield 41, 3) := by decide +kernel
theorem dX12_dieNight_76 : decode cX12_dieNight 76 = .ok (.if_icmp .ne 5, 3) := by decide +kernel
theorem dX12_dieNight_79 : decode cX12_dieNight 79 = .ok (.iconst 0, 1) := by decide +kernel
theorem dX12_dieNight_80 : decode cX12_dieNight 80 = .ok (.ireturn, 1) := by decide +kernel
theorem dX12_dieNight_81 : decode cX12_dieNight 81 = .ok (.iinc 5 1, 3) := by decide +kernel
theorem dX12_dieNight_84 : decode cX12_dieNight 84 = .ok (.goto (-81), 3) := by decide +kernel
theorem dX12_dieNight_87 : decode cX12_dieNight 87 = .ok (.iconst 0, 1) := by decide +kernel
theorem dX12_dieNight_88 : decode cX12_dieNight 88 = .ok (.ireturn, 1) := by decide +kernel
theorem dX12_dies_0 : decode cX12_dies 0 = .ok (.aload_n 0, 1) := by decide +kernel
theorem dX12_dies_1 : decode cX12_dies 1 = .ok (.iconst 0, 1) := by decide +kernel
theorem dX12_dies_2 : decode cX12_dies 2 = .ok (.putfield 95, 3) := by decide +kernel
theorem dX12_dies_5 : decode cX12_dies 5 = .ok (.aload_n 0, 1) := by decide +kernel
theorem dX12_dies_6 : decode cX12_dies 6 = .ok (.iload_n 1, 1) := by decide +kernel
theorem dX12_dies_7 : decode cX12_dies 7 = .ok (.invokevirtual 224, 3) := by decide +kernel
theorem dX12_dies_10 : decode cX12_dies 10 = .ok (.ifCond .ne 5, 3) := by decide +kernel
theorem dX12_dies_13 : decode cX12_dies 13 = .ok (.iconst (-1), 1) := by decide +kernel
theorem dX12_dies_14 : decode cX12_dies 14 = .ok (.ireturn, 1) := by decide +kernel
theorem dX12_dies_15 : decode cX12_dies 15 = .ok (.aload_n 0, 1) := by decide +kernel
theorem dX12_dies_16 : decode cX12_dies 16 = .ok (.getfield 9, 3) := by decide +kernel
theorem dX12_dies_19 : decode cX12_dies 19 = .ok (.iload_n 1, 1) := by decide +kernel
theorem dX12_dies_20 : decode cX12_dies 20 = .ok (.iaload, 1) := by decide +kernel
theorem dX12_dies_21 : decode cX12_dies 21 = .ok (.ifCond .eq 6, 3) := by decide +kernel
theorem dX12_dies_24 : decode cX12_dies 24 = .ok (.bipush (-3), 2) := by decide +kernel
theorem dX12_dies_26 : decode cX12_dies 26 = .ok (.ireturn, 1) := by decide +kernel
theorem dX12_dies_27 : decode cX12_dies 27 = .ok (.aload_n 0, 1) := by decide +kernel
theorem dX12_dies_28 : decode cX12_dies 28 = .ok (.iload_n 1, 1) := by decide +kernel
theorem dX12_dies_29 : decode cX12_dies 29 = .ok (.aload_n 0, 1) := by decide +kernel
theorem dX12_dies_30 : decode cX12_dies 30 = .ok (.getfield 9, 3) := by decide +kernel
theorem dX12_dies_33 : decode cX12_dies 33 = .ok (.bipush 6, 2) := by decide +kernel
theorem dX12_dies_35 : decode cX12_dies 35 = .ok (.iload_n 1, 1) := by decide +kernel
theorem dX12_dies_36 : decode cX12_dies 36 = .ok (.iadd, 1) := by decide +kernel
theorem dX12_dies_37 : decode cX12_dies 37 = .ok (.iaload, 1) := by decide +kernel
theorem dX12_dies_38 : decode cX12_dies 38 = .ok (.bipush 60, 2) := by decide +kernel
theorem dX12_dies_40 : decode cX12_dies 40 = .ok (.iconst 1, 1) := by decide +kernel
theorem dX12_dies_41 : decode cX12_dies 41 = .ok (.invokevirtual 286, 3) := by decide +kernel
theorem dX12_dies_44 : decode cX12_dies 44 = .ok (.istore_n 2, 1) := by decide +kernel
theorem dX12_dies_45 : decode cX12_dies 45 = .ok (.iload_n 2, 1) := by decide +kernel
theorem dX12_dies_46 : decode cX12_dies 46 = .ok (.ifCond .ne 6, 3) := by decide +kernel
theorem dX12_dies_49 : decode cX12_dies 49 = .ok (.bipush (-2), 2) := by decide +kernel
theorem dX12_dies_51 : decode cX12_dies 51 = .ok (.ireturn, 1) := by decide +kernel
theorem dX12_dies_52 : decode cX12_dies 52 = .ok (.aload_n 0, 1) := by decide +kernel
theorem dX12_dies_53 : decode cX12_dies 53 = .ok (.iconst 0, 1) := by decide +kernel
theorem dX12_dies_54 : decode cX12_dies 54 = .ok (.putfield 98, 3) := by decide +kernel
theorem dX12_dies_57 : decode cX12_dies 57 = .ok (.aload_n 0, 1) := by decide +kernel
theorem dX12_dies_58 : decode cX12_dies 58 = .ok (.aload_n 0, 1) := by decide +kernel
theorem dX12_dies_59 : decode cX12_dies 59 = .ok (.getfield 283, 3) := by decide +kernel
theorem dX12_dies_62 : decode cX12_dies 62 = .ok (.i2l, 1) := by decide +kernel
theorem dX12_dies_63 : decode cX12_dies 63 = .ok (.invokevirtual 267, 3) := by decide +kernel
theorem dX12_dies_66 : decode cX12_dies 66 = .ok (.iload_n 2, 1) := by decide +kernel
theorem dX12_dies_67 : decode cX12_dies 67 = .ok (.ireturn, 1) := by decide +kernel
theorem dX4_pleadsIn_0 : decode cX4_pleadsIn 0 = .ok (.aload_n 0, 1) := by decide +kernel
theorem dX4_pleadsIn_1 : decode cX4_pleadsIn 1 = .ok (.getfield 31, 3) := by decide +kernel
theorem dX4_pleadsIn_4 : decode cX4_pleadsIn 4 = .ok (.getfield 75, 3) := by decide +kernel
theorem dX4_pleadsIn_7 : decode cX4_pleadsIn 7 = .ok (.iload_n 1, 1) := by decide +kernel
theorem dX4_pleadsIn_8 : decode cX4_pleadsIn 8 = .ok (.baload, 1) := by decide +kernel
theorem dX4_pleadsIn_9 : decode cX4_pleadsIn 9 = .ok (.ifCond .eq 6, 3) := by decide +kernel
theorem dX4_pleadsIn_12 : decode cX4_pleadsIn 12 = .ok (.bipush (-2), 2) := by decide +kernel
theorem dX4_pleadsIn_14 : decode cX4_pleadsIn 14 = .ok (.ireturn, 1) := by decide +kernel
theorem dX4_pleadsIn_15 : decode cX4_pleadsIn 15 = .ok (.iconst 0, 1) := by decide +kernel
theorem dX4_pleadsIn_16 : decode cX4_pleadsIn 16 = .ok (.istore 4, 2) := by decide +kernel
theorem dX4_pleadsIn_18 : decode cX4_pleadsIn 18 = .ok (.iload 4, 2) := by decide +kernel
theorem dX4_pleadsIn_20 : decode cX4_pleadsIn 20 = .ok (.bipush 60, 2) := by decide +kernel
theorem dX4_pleadsIn_22 : decode cX4_pleadsIn 22 = .ok (.if_icmp .gt 77, 3) := by decide +kernel
theorem dX4_pleadsIn_25 : decode cX4_pleadsIn 25 = .ok (.aload_n 0, 1) := by decide +kernel
theorem dX4_pleadsIn_26 : decode cX4_pleadsIn 26 = .ok (.iload_n 1, 1) := by decide +kernel
theorem dX4_pleadsIn_27 : decode cX4_pleadsIn 27 = .ok (.iload_n 2, 1) := by decide +kernel
theorem dX4_pleadsIn_28 : decode cX4_pleadsIn 28 = .ok (.iload 4, 2) := by decide +kernel
theorem dX4_pleadsIn_30 : decode cX4_pleadsIn 30 = .ok (.invokevirtual 140, 3) := by decide +kernel
theorem dX4_pleadsIn_33 : decode cX4_pleadsIn 33 = .ok (.aload_n 0, 1) := by decide +kernel
theorem dX4_pleadsIn_34 : decode cX4_pleadsIn 34 = .ok (.getfield 31, 3) := by decide +kernel
theorem dX4_pleadsIn_37 : decode cX4_pleadsIn 37 = .ok (.getfield 83, 3) := by decide +kernel
theorem dX4_pleadsIn_40 : decode cX4_pleadsIn 40 = .ok (.iload_n 1, 1) := by decide +kernel
theorem dX4_pleadsIn_41 : decode cX4_pleadsIn 41 = .ok (.iaload, 1) := by decide +kernel
theorem dX4_pleadsIn_42 : decode cX4_pleadsIn 42 = .ok (.if_icmp .gt 6, 3) := by decide +kernel
theorem dX4_pleadsIn_45 : decode cX4_pleadsIn 45 = .ok (.iload 4, 2) := by decide +kernel
theorem dX4_pleadsIn_47 : decode cX4_pleadsIn 47 = .ok (.ireturn, 1) := by decide +kernel
theorem dX4_pleadsIn_48 : decode cX4_pleadsIn 48 = .ok (.iload_n 2, 1) := by decide +kernel
theorem dX4_pleadsIn_49 : decode cX4_pleadsIn 49 = .ok (.ifCond .le 20, 3) := by decide +kernel
theorem dX4_pleadsIn_52 : decode cX4_pleadsIn 52 = .ok (.aload_n 0, 1) := by decide +kernel
theorem dX4_pleadsIn_53 : decode cX4_pleadsIn 53 = .ok (.iload_n 1, 1) := by decide +kernel
theorem dX4_pleadsIn_54 : decode cX4_pleadsIn 54 = .ok (.iload_n 2, 1) := by decide +kernel
theorem dX4_pleadsIn_55 : decode cX4_pleadsIn 55 = .ok (.iload 4, 2) := by decide +kernel
theorem dX4_pleadsIn_57 : decode cX4_pleadsIn 57 = .ok (.iconst 1, 1) := by decide +kernel
theorem dX4_pleadsIn_58 : decode cX4_pleadsIn 58 = .ok (.iadd, 1) := by decide +kernel
theorem dX4_pleadsIn_59 : decode cX4_pleadsIn 59 = .ok (.invokevirtual 136, 3) := by decide +kernel
theorem dX4_pleadsIn_62 : decode cX4_pleadsIn 62 = .ok (.ifCond .gt 7, 3) := by decide +kernel
theorem dX4_pleadsIn_65 : decode cX4_pleadsIn 65 = .ok (.iconst 1, 1) := by decide +kernel
theorem dX4_pleadsIn_66 : decode cX4_pleadsIn 66 = .ok (.goto 4, 3) := by decide +kernel
theorem dX4_pleadsIn_69 : decode cX4_pleadsIn 69 = .ok (.iconst 0, 1) := by decide +kernel
theorem dX4_pleadsIn_70 : decode cX4_pleadsIn 70 = .ok (.istore 5, 2) := by decide +kernel
theorem dX4_pleadsIn_72 : decode cX4_pleadsIn 72 = .ok (.iload 5, 2) := by decide +kernel
theorem dX4_pleadsIn_74 : decode cX4_pleadsIn 74 = .ok (.ifCond .ne 16, 3) := by decide +kernel
theorem dX4_pleadsIn_77 : decode cX4_pleadsIn 77 = .ok (.aload_n 0, 1) := by decide +kernel
theorem dX4_pleadsIn_78 : decode cX4_pleadsIn 78 = .ok (.getfield 24, 3) := by decide +kernel
theorem dX4_pleadsIn_81 : decode cX4_pleadsIn 81 = .ok (.iload 4, 2) := by decide +kernel
theorem dX4_pleadsIn_83 : decode cX4_pleadsIn 83 = .ok (.iadd, 1) := by decide +kernel
theorem dX4_pleadsIn_84 : decode cX4_pleadsIn 84 = .ok (.iconst 1, 1) := by decide +kernel
theorem dX4_pleadsIn_85 : decode cX4_pleadsIn 85 = .ok (.iadd, 1) := by decide +kernel
theorem dX4_pleadsIn_86 : decode cX4_pleadsIn 86 = .ok (.iload_n 3, 1) := by decide +kernel
theorem dX4_pleadsIn_87 : decode cX4_pleadsIn 87 = .ok (.if_icmp .ne 6, 3) := by decide +kernel
theorem dX4_pleadsIn_90 : decode cX4_pleadsIn 90 = .ok (.bipush (-2), 2) := by decide +kernel
theorem dX4_pleadsIn_92 : decode cX4_pleadsIn 92 = .ok (.ireturn, 1) := by decide +kernel
theorem dX4_pleadsIn_93 : decode cX4_pleadsIn 93 = .ok (.iinc 4 1, 3) := by decide +kernel
theorem dX4_pleadsIn_96 : decode cX4_pleadsIn 96 = .ok (.goto (-78), 3) := by decide +kernel
theorem dX4_pleadsIn_99 : decode cX4_pleadsIn 99 = .ok (.bipush (-2), 2) := by decide +kernel
theorem dX4_pleadsIn_101 : decode cX4_pleadsIn 101 = .ok (.ireturn, 1) := by decide +kernel
theorem dX11_speaks_0 : decode cX11_speaks 0 = .ok (.aload_n 0, 1) := by decide +kernel
theorem dX11_speaks_1 : decode cX11_speaks 1 = .ok (.iload_n 1, 1) := by decide +kernel
theorem dX11_speaks_2 : decode cX11_speaks 2 = .ok (.invokevirtual 147, 3) := by decide +kernel
theorem dX11_speaks_5 : decode cX11_speaks 5 = .ok (.ifCond .eq 13, 3) := by decide +kernel
theorem dX11_speaks_8 : decode cX11_speaks 8 = .ok (.iload_n 2, 1) := by decide +kernel
theorem dX11_speaks_9 : decode cX11_speaks 9 = .ok (.ifCond .lt 9, 3) := by decide +kernel
theorem dX11_speaks_12 : decode cX11_speaks 12 = .ok (.iload_n 2, 1) := by decide +kernel
theorem dX11_speaks_13 : decode cX11_speaks 13 = .ok (.bipush 99, 2) := by decide +kernel
theorem dX11_speaks_15 : decode cX11_speaks 15 = .ok (.if_icmp .le 5, 3) := by decide +kernel
theorem dX11_speaks_18 : decode cX11_speaks 18 = .ok (.iconst (-1), 1) := by decide +kernel
theorem dX11_speaks_19 : decode cX11_speaks 19 = .ok (.ireturn, 1) := by decide +kernel
theorem dX11_speaks_20 : decode cX11_speaks 20 = .ok (.aload_n 0, 1) := by decide +kernel
theorem dX11_speaks_21 : decode cX11_speaks 21 = .ok (.getfield 65, 3) := by decide +kernel
theorem dX11_speaks_24 : decode cX11_speaks 24 = .ok (.iload_n 1, 1) := by decide +kernel
theorem dX11_speaks_25 : decode cX11_speaks 25 = .ok (.invokevirtual 261, 3) := by decide +kernel
theorem dX11_speaks_28 : decode cX11_speaks 28 = .ok (.ifCond .ne 6, 3) := by decide +kernel
theorem dX11_speaks_31 : decode cX11_speaks 31 = .ok (.bipush (-3), 2) := by decide +kernel
theorem dX11_speaks_33 : decode cX11_speaks 33 = .ok (.ireturn, 1) := by decide +kernel
theorem dX11_speaks_34 : decode cX11_speaks 34 = .ok (.aload_n 0, 1) := by decide +kernel
theorem dX11_speaks_35 : decode cX11_speaks 35 = .ok (.getfield 65, 3) := by decide +kernel
theorem dX11_speaks_38 : decode cX11_speaks 38 = .ok (.iload_n 1, 1) := by decide +kernel
theorem dX11_speaks_39 : decode cX11_speaks 39 = .ok (.iload_n 2, 1) := by decide +kernel
theorem dX11_speaks_40 : decode cX11_speaks 40 = .ok (.aload_n 0, 1) := by decide +kernel
theorem dX11_speaks_41 : decode cX11_speaks 41 = .ok (.getfield 100, 3) := by decide +kernel
theorem dX11_speaks_44 : decode cX11_speaks 44 = .ok (.invokevirtual 271, 3) := by decide +kernel
theorem dX11_speaks_47 : decode cX11_speaks 47 = .ok (.istore_n 3, 1) := by decide +kernel
theorem dX11_speaks_48 : decode cX11_speaks 48 = .ok (.iload_n 3, 1) := by decide +kernel
theorem dX11_speaks_49 : decode cX11_speaks 49 = .ok (.ifCond .lt 21, 3) := by decide +kernel
theorem dX11_speaks_52 : decode cX11_speaks 52 = .ok (.aload_n 0, 1) := by decide +kernel
theorem dX11_speaks_53 : decode cX11_speaks 53 = .ok (.getfield 19, 3) := by decide +kernel
theorem dX11_speaks_56 : decode cX11_speaks 56 = .ok (.aload_n 0, 1) := by decide +kernel
theorem dX11_speaks_57 : decode cX11_speaks 57 = .ok (.getfield 65, 3) := by decide +kernel
theorem dX11_speaks_60 : decode cX11_speaks 60 = .ok (.iload_n 1, 1) := by decide +kernel
theorem dX11_speaks_61 : decode cX11_speaks 61 = .ok (.iload_n 2, 1) := by decide +kernel
theorem dX11_speaks_62 : decode cX11_speaks 62 = .ok (.iload_n 3, 1) := by decide +kernel
theorem dX11_speaks_63 : decode cX11_speaks 63 = .ok (.invokevirtual 257, 3) := by decide +kernel
theorem dX11_speaks_66 : decode cX11_speaks 66 = .ok (.i2l, 1) := by decide +kernel
theorem dX11_speaks_67 : decode cX11_speaks 67 = .ok (.invokevirtual 228, 3) := by decide +kernel
theorem dX11_speaks_70 : decode cX11_speaks 70 = .ok (.iload_n 3, 1) := by decide +kernel
theorem dX11_speaks_71 : decode cX11_speaks 71 = .ok (.ireturn, 1) := by decide +kernel
theorem dX12_speakNight_0 : decode cX12_speakNight 0 = .ok (.iconst 0, 1) := by decide +kernel
theorem dX12_speakNight_1 : decode cX12_speakNight 1 = .ok (.istore_n 3, 1) := by decide +kernel
theorem dX12_speakNight_2 : decode cX12_speakNight 2 = .ok (.iload_n 3, 1) := by decide +kernel
theorem dX12_speakNight_3 : decode cX12_speakNight 3 = .ok (.bipush 60, 2) := by decide +kernel
theorem dX12_speakNight_5 : decode cX12_speakNight 5 = .ok (.if_icmp .gt 115, 3) := by decide +kernel
theorem dX12_speakNight_8 : decode cX12_speakNight 8 = .ok (.aload_n 0, 1) := by decide +kernel
theorem dX12_speakNight_9 : decode cX12_speakNight 9 = .ok (.getfield 9, 3) := by decide +kernel
theorem dX12_speakNight_12 : decode cX12_speakNight 12 = .ok (.bipush 12, 2) := by decide +kernel
theorem dX12_speakNight_14 : decode cX12_speakNight 14 = .ok (.iload_n 1, 1) := by decide +kernel
theorem dX12_speakNight_15 : decode cX12_speakNight 15 = .ok (.iadd, 1) := by decide +kernel
theorem dX12_speakNight_16 : decode cX12_speakNight 16 = .ok (.iaload, 1) := by decide +kernel
theorem dX12_speakNight_17 : decode cX12_speakNight 17 = .ok (.iload_n 2, 1) := by decide +kernel
theorem dX12_speakNight_18 : decode cX12_speakNight 18 = .ok (.ifCond .le 7, 3) := by decide +kernel
theorem dX12_speakNight_21 : decode cX12_speakNight 21 = .ok (.iload_n 3, 1) := by decide +kernel
theorem dX12_speakNight_22 : decode cX12_speakNight 22 = .ok (.goto 4, 3) := by decide +kernel
theorem dX12_speakNight_25 : decode cX12_speakNight 25 = .ok (.iconst 0, 1) := by decide +kernel
theorem dX12_speakNight_26 : decode cX12_speakNight 26 = .ok (.iadd, 1) := by decide +kernel
theorem dX12_speakNight_27 : decode cX12_speakNight 27 = .ok (.istore 4, 2) := by decide +kernel
theorem dX12_speakNight_29 : decode cX12_speakNight 29 = .ok (.aload_n 0, 1) := by decide +kernel
theorem dX12_speakNight_30 : decode cX12_speakNight 30 = .ok (.aload_n 0, 1) := by decide +kernel
theorem dX12_speakNight_31 : decode cX12_speakNight 31 = .ok (.iload_n 1, 1) := by decide +kernel
theorem dX12_speakNight_32 : decode cX12_speakNight 32 = .ok (.iload_n 2, 1) := by decide +kernel
theorem dX12_speakNight_33 : decode cX12_speakNight 33 = .ok (.iload 4, 2) := by decide +kernel
theorem dX12_speakNight_35 : decode cX12_speakNight 35 = .ok (.aload_n 0, 1) := by decide +kernel
theorem dX12_speakNight_36 : decode cX12_speakNight 36 = .ok (.getfield 9, 3) := by decide +kernel
theorem dX12_speakNight_39 : decode cX12_speakNight 39 = .ok (.bipush 26, 2) := by decide +kernel
theorem dX12_speakNight_41 : decode cX12_speakNight 41 = .ok (.iaload, 1) := by decide +kernel
theorem dX12_speakNight_42 : decode cX12_speakNight 42 = .ok (.iload_n 3, 1) := by decide +kernel
theorem dX12_speakNight_43 : decode cX12_speakNight 43 = .ok (.iadd, 1) := by decide +kernel
theorem dX12_speakNight_44 : decode cX12_speakNight 44 = .ok (.invokevirtual 220, 3) := by decide +kernel
theorem dX12_speakNight_47 : decode cX12_speakNight 47 = .ok (.putfield 283, 3) := by decide +kernel
theorem dX12_speakNight_50 : decode cX12_speakNight 50 = .ok (.aload_n 0, 1) := by decide +kernel
theorem dX12_speakNight_51 : decode cX12_speakNight 51 = .ok (.iload_n 1, 1) := by decide +kernel
theorem dX12_speakNight_52 : decode cX12_speakNight 52 = .ok (.aload_n 0, 1) := by decide +kernel
theorem dX12_speakNight_53 : decode cX12_speakNight 53 = .ok (.getfield 283, 3) := by decide +kernel
theorem dX12_speakNight_56 : decode cX12_speakNight 56 = .ok (.invokevirtual 257, 3) := by decide +kernel
theorem dX12_speakNight_59 : decode cX12_speakNight 59 = .ok (.ifCond .eq 5, 3) := by decide +kernel
theorem dX12_speakNight_62 : decode cX12_speakNight 62 = .ok (.iload_n 3, 1) := by decide +kernel
theorem dX12_speakNight_63 : decode cX12_speakNight 63 = .ok (.ireturn, 1) := by decide +kernel
theorem dX12_speakNight_64 : decode cX12_speakNight 64 = .ok (.iload_n 2, 1) := by decide +kernel
theorem dX12_speakNight_65 : decode cX12_speakNight 65 = .ok (.ifCond .le 28, 3) := by decide +kernel
theorem dX12_speakNight_68 : decode cX12_speakNight 68 = .ok (.aload_n 0, 1) := by decide +kernel
theorem dX12_speakNight_69 : decode cX12_speakNight 69 = .ok (.iload_n 1, 1) := by decide +kernel
theorem dX12_speakNight_70 : decode cX12_speakNight 70 = .ok (.iload_n 2, 1) := by decide +kernel
theorem dX12_speakNight_71 : decode cX12_speakNight 71 = .ok (.iload 4, 2) := by decide +kernel
theorem dX12_speakNight_73 : decode cX12_speakNight 73 = .ok (.iconst 1, 1) := by decide +kernel
theorem dX12_speakNight_74 : decode cX12_speakNight 74 = .ok (.iadd, 1) := by decide +kernel
theorem dX12_speakNight_75 : decode cX12_speakNight 75 = .ok (.aload_n 0, 1) := by decide +kernel
theorem dX12_speakNight_76 : decode cX12_speakNight 76 = .ok (.getfield 9, 3) := by decide +kernel
theorem dX12_speakNight_79 : decode cX12_speakNight 79 = .ok (.bipush 26, 2) := by decide +kernel
theorem dX12_speakNight_81 : decode cX12_speakNight 81 = .ok (.iaload, 1) := by decide +kernel
theorem dX12_speakNight_82 : decode cX12_speakNight 82 = .ok (.iload_n 3, 1) := by decide +kernel
theorem dX12_speakNight_83 : decode cX12_speakNight 83 = .ok (.iadd, 1) := by decide +kernel
theorem dX12_speakNight_84 : decode cX12_speakNight 84 = .ok (.invokevirtual 220, 3) := by decide +kernel
theorem dX12_speakNight_87 : decode cX12_speakNight 87 = .ok (.ifCond .gt 6, 3) := by decide +kernel
theorem dX12_speakNight_90 : decode cX12_speakNight 90 = .ok (.bipush (-2), 2) := by decide +kernel
theorem dX12_speakNight_92 : decode cX12_speakNight 92 = .ok (.ireturn, 1) := by decide +kernel
theorem dX12_speakNight_93 : decode cX12_speakNight 93 = .ok (.aload_n 0, 1) := by decide +kernel
theorem dX12_speakNight_94 : decode cX12_speakNight 94 = .ok (.getfield 9, 3) := by decide +kernel
theorem dX12_speakNight_97 : decode cX12_speakNight 97 = .ok (.bipush 26, 2) := by decide +kernel
theorem dX12_speakNight_99 : decode cX12_speakNight 99 = .ok (.iaload, 1) := by decide +kernel
theorem dX12_speakNight_100 : decode cX12_speakNight 100 = .ok (.iload_n 3, 1) := by decide +kernel
theorem dX12_speakNight_101 : decode cX12_speakNight 101 = .ok (.iadd, 1) := by decide +kernel
theorem dX12_speakNight_102 : decode cX12_speakNight 102 = .ok (.iconst 1, 1) := by decide +kernel
theorem dX12_speakNight_103 : decode cX12_speakNight 103 = .ok (.iadd, 1) := by decide +kernel
theorem dX12_speakNight_104 : decode cX12_speakNight 104 = .ok (.aload_n 0, 1) := by decide +kernel
theorem dX12_speakNight_105 : decode cX12_speakNight 105 = .ok (.getfield 41, 3) := by decide +kernel
theorem dX12_speakNight_108 : decode cX12_speakNight 108 = .ok (.if_icmp .ne 6, 3) := by decide +kernel
theorem dX12_speakNight_111 : decode cX12_speakNight 111 = .ok (.bipush (-2), 2) := by decide +kernel
theorem dX12_speakNight_113 : decode cX12_speakNight 113 = .ok (.ireturn, 1) := by decide +kernel
theorem dX12_speakNight_114 : decode cX12_speakNight 114 = .ok (.iinc 3 1, 3) := by decide +kernel
theorem dX12_speakNight_117 : decode cX12_speakNight 117 = .ok (.goto (-115), 3) := by decide +kernel
theorem dX12_speakNight_120 : decode cX12_speakNight 120 = .ok (.bipush (-2), 2) := by decide +kernel
theorem dX12_speakNight_122 : decode cX12_speakNight 122 = .ok (.ireturn, 1) := by decide +kernel
theorem dX12_speaks_0 : decode cX12_speaks 0 = .ok (.aload_n 0, 1) := by decide +kernel
theorem dX12_speaks_1 : decode cX12_speaks 1 = .ok (.iconst 0, 1) := by decide +kernel
theorem dX12_speaks_2 : decode cX12_speaks 2 = .ok (.putfield 95, 3) := by decide +kernel
theorem dX12_speaks_5 : decode cX12_speaks 5 = .ok (.aload_n 0, 1) := by decide +kernel
theorem dX12_speaks_6 : decode cX12_speaks 6 = .ok (.iload_n 1, 1) := by decide +kernel
theorem dX12_speaks_7 : decode cX12_speaks 7 = .ok (.invokevirtual 224, 3) := by decide +kernel
theorem dX12_speaks_10 : decode cX12_speaks 10 = .ok (.ifCond .eq 13, 3) := by decide +kernel
theorem dX12_speaks_13 : decode cX12_speaks 13 = .ok (.iload_n 2, 1) := by decide +kernel
theorem dX12_speaks_14 : decode cX12_speaks 14 = .ok (.iconst 0, 1) := by decide +kernel
theorem dX12_speaks_15 : decode cX12_speaks 15 = .ok (.bipush 99, 2) := by decide +kernel
theorem dX12_speaks_17 : decode cX12_speaks 17 = .ok (.invokestatic 104, 3) := by decide +kernel
theorem dX12_speaks_20 : decode cX12_speaks 20 = .ok (.ifCond .ne 5, 3) := by decide +kernel
theorem dX12_speaks_23 : decode cX12_speaks 23 = .ok (.iconst (-1), 1) := by decide +kernel
theorem dX12_speaks_24 : decode cX12_speaks 24 = .ok (.ireturn, 1) := by decide +kernel
theorem dX12_speaks_25 : decode cX12_speaks 25 = .ok (.aload_n 0, 1) := by decide +kernel
theorem dX12_speaks_26 : decode cX12_speaks 26 = .ok (.getfield 9, 3) := by decide +kernel
theorem dX12_speaks_29 : decode cX12_speaks 29 = .ok (.iload_n 1, 1) := by decide +kernel
theorem dX12_speaks_30 : decode cX12_speaks 30 = .ok (.iaload, 1) := by decide +kernel
theorem dX12_speaks_31 : decode cX12_speaks 31 = .ok (.ifCond .eq 6, 3) := by decide +kernel
theorem dX12_speaks_34 : decode cX12_speaks 34 = .ok (.bipush (-3), 2) := by decide +kernel
theorem dX12_speaks_36 : decode cX12_speaks 36 = .ok (.ireturn, 1) := by decide +kernel
theorem dX12_speaks_37 : decode cX12_speaks 37 = .ok (.aload_n 0, 1) := by decide +kernel
theorem dX12_speaks_38 : decode cX12_speaks 38 = .ok (.iload_n 1, 1) := by decide +kernel
theorem dX12_speaks_39 : decode cX12_speaks 39 = .ok (.iload_n 2, 1) := by decide +kernel
theorem dX12_speaks_40 : decode cX12_speaks 40 = .ok (.invokevirtual 290, 3) := by decide +kernel
theorem dX12_speaks_43 : decode cX12_speaks 43 = .ok (.istore_n 3, 1) := by decide +kernel
theorem dX12_speaks_44 : decode cX12_speaks 44 = .ok (.iload_n 3, 1) := by decide +kernel
theorem dX12_speaks_45 : decode cX12_speaks 45 = .ok (.ifCond .ge 6, 3) := by decide +kernel
theorem dX12_speaks_48 : decode cX12_speaks 48 = .ok (.bipush (-2), 2) := by decide +kernel
theorem dX12_speaks_50 : decode cX12_speaks 50 = .ok (.ireturn, 1) := by decide +kernel
theorem dX12_speaks_51 : decode cX12_speaks 51 = .ok (.aload_n 0, 1) := by decide +kernel
theorem dX12_speaks_52 : decode cX12_speaks 52 = .ok (.iconst 0, 1) := by decide +kernel
theorem dX12_speaks_53 : decode cX12_speaks 53 = .ok (.putfield 98, 3) := by decide +kernel
theorem dX12_speaks_56 : decode cX12_speaks 56 = .ok (.aload_n 0, 1) := by decide +kernel
theorem dX12_speaks_57 : decode cX12_speaks 57 = .ok (.aload_n 0, 1) := by decide +kernel
theorem dX12_speaks_58 : decode cX12_speaks 58 = .ok (.getfield 283, 3) := by decide +kernel
theorem dX12_speaks_61 : decode cX12_speaks 61 = .ok (.i2l, 1) := by decide +kernel
theorem dX12_speaks_62 : decode cX12_speaks 62 = .ok (.invokevirtual 267, 3) := by decide +kernel
theorem dX12_speaks_65 : decode cX12_speaks 65 = .ok (.iload_n 3, 1) := by decide +kernel
theorem dX12_speaks_66 : decode cX12_speaks 66 = .ok (.ireturn, 1) := by decide +kernel
theorem dX11_least_0 : decode cX11_least 0 = .ok (.aload_n 0, 1) := by decide +kernel
theorem dX11_least_1 : decode cX11_least 1 = .ok (.iload_n 1, 1) := by decide +kernel
theorem dX11_least_2 : decode cX11_least 2 = .ok (.invokevirtual 147, 3) := by decide +kernel
theorem dX11_least_5 : decode cX11_least 5 = .ok (.ifCond .eq 13, 3) := by decide +kernel
theorem dX11_least_8 : decode cX11_least 8 = .ok (.iload_n 2, 1) := by decide +kernel
theorem dX11_least_9 : decode cX11_least 9 = .ok (.ifCond .lt 9, 3) := by decide +kernel
theorem dX11_least_12 : decode cX11_least 12 = .ok (.iload_n 2, 1) := by decide +kernel
theorem dX11_least_13 : decode cX11_least 13 = .ok (.bipush 60, 2) := by decide +kernel
theorem dX11_least_15 : decode cX11_least 15 = .ok (.if_icmp .le 5, 3) := by decide +kernel
theorem dX11_least_18 : decode cX11_least 18 = .ok (.iconst (-1), 1) := by decide +kernel
theorem dX11_least_19 : decode cX11_least 19 = .ok (.ireturn, 1) := by decide +kernel
theorem dX11_least_20 : decode cX11_least 20 = .ok (.aload_n 0, 1) := by decide +kernel
theorem dX11_least_21 : decode cX11_least 21 = .ok (.getfield 65, 3) := by decide +kernel
theorem dX11_least_24 : decode cX11_least 24 = .ok (.iload_n 1, 1) := by decide +kernel
theorem dX11_least_25 : decode cX11_least 25 = .ok (.invokevirtual 261, 3) := by decide +kernel
theorem dX11_least_28 : decode cX11_least 28 = .ok (.ifCond .ne 6, 3) := by decide +kernel
theorem dX11_least_31 : decode cX11_least 31 = .ok (.bipush (-3), 2) := by decide +kernel
theorem dX11_least_33 : decode cX11_least 33 = .ok (.ireturn, 1) := by decide +kernel
theorem dX11_least_34 : decode cX11_least 34 = .ok (.iconst 0, 1) := by decide +kernel
theorem dX11_least_35 : decode cX11_least 35 = .ok (.istore_n 3, 1) := by decide +kernel
theorem dX11_least_36 : decode cX11_least 36 = .ok (.iload_n 3, 1) := by decide +kernel
theorem dX11_least_37 : decode cX11_least 37 = .ok (.bipush 99, 2) := by decide +kernel
theorem dX11_least_39 : decode cX11_least 39 = .ok (.if_icmp .gt 47, 3) := by decide +kernel
theorem dX11_least_42 : decode cX11_least 42 = .ok (.aload_n 0, 1) := by decide +kernel
theorem dX11_least_43 : decode cX11_least 43 = .ok (.getfield 65, 3) := by decide +kernel
theorem dX11_least_46 : decode cX11_least 46 = .ok (.iload_n 1, 1) := by decide +kernel
theorem dX11_least_47 : decode cX11_least 47 = .ok (.iload_n 3, 1) := by decide +kernel
theorem dX11_least_48 : decode cX11_least 48 = .ok (.aload_n 0, 1) := by decide +kernel
theorem dX11_least_49 : decode cX11_least 49 = .ok (.getfield 100, 3) := by decide +kernel
theorem dX11_least_52 : decode cX11_least 52 = .ok (.invokevirtual 271, 3) := by decide +kernel
theorem dX11_least_55 : decode cX11_least 55 = .ok (.istore 4, 2) := by decide +kernel
theorem dX11_least_57 : decode cX11_least 57 = .ok (.iload 4, 2) := by decide +kernel
theorem dX11_least_59 : decode cX11_least 59 = .ok (.ifCond .lt 21, 3) := by decide +kernel
theorem dX11_least_62 : decode cX11_least 62 = .ok (.iload 4, 2) := by decide +kernel
theorem dX11_least_64 : decode cX11_least 64 = .ok (.iload_n 2, 1) := by decide +kernel
theorem dX11_least_65 : decode cX11_least 65 = .ok (.if_icmp .gt 15, 3) := by decide +kernel
theorem dX11_least_68 : decode cX11_least 68 = .ok (.aload_n 0, 1) := by decide +kernel
theorem dX11_least_69 : decode cX11_least 69 = .ok (.getfield 19, 3) := by decide +kernel
theorem dX11_least_72 : decode cX11_least 72 = .ok (.iload 4, 2) := by decide +kernel
theorem dX11_least_74 : decode cX11_least 74 = .ok (.i2l, 1) := by decide +kernel
theorem dX11_least_75 : decode cX11_least 75 = .ok (.invokevirtual 228, 3) := by decide +kernel
theorem dX11_least_78 : decode cX11_least 78 = .ok (.iload_n 3, 1) := by decide +kernel
theorem dX11_least_79 : decode cX11_least 79 = .ok (.ireturn, 1) := by decide +kernel
theorem dX11_least_80 : decode cX11_least 80 = .ok (.iinc 3 1, 3) := by decide +kernel
theorem dX11_least_83 : decode cX11_least 83 = .ok (.goto (-47), 3) := by decide +kernel
theorem dX11_least_86 : decode cX11_least 86 = .ok (.bipush (-2), 2) := by decide +kernel
theorem dX11_least_88 : decode cX11_least 88 = .ok (.ireturn, 1) := by decide +kernel
theorem dX12_least_0 : decode cX12_least 0 = .ok (.aload_n 0, 1) := by decide +kernel
theorem dX12_least_1 : decode cX12_least 1 = .ok (.iconst 0, 1) := by decide +kernel
theorem dX12_least_2 : decode cX12_least 2 = .ok (.putfield 95, 3) := by decide +kernel
theorem dX12_least_5 : decode cX12_least 5 = .ok (.aload_n 0, 1) := by decide +kernel
theorem dX12_least_6 : decode cX12_least 6 = .ok (.iload_n 1, 1) := by decide +kernel
theorem dX12_least_7 : decode cX12_least 7 = .ok (.invokevirtual 224, 3) := by decide +kernel
theorem dX12_least_10 : decode cX12_least 10 = .ok (.ifCond .eq 13, 3) := by decide +kernel
theorem dX12_least_13 : decode cX12_least 13 = .ok (.iload_n 2, 1) := by decide +kernel
theorem dX12_least_14 : decode cX12_least 14 = .ok (.iconst 0, 1) := by decide +kernel
theorem dX12_least_15 : decode cX12_least 15 = .ok (.bipush 60, 2) := by decide +kernel
theorem dX12_least_17 : decode cX12_least 17 = .ok (.invokestatic 104, 3) := by decide +kernel
theorem dX12_least_20 : decode cX12_least 20 = .ok (.ifCond .ne 5, 3) := by decide +kernel
theorem dX12_least_23 : decode cX12_least 23 = .ok (.iconst (-1), 1) := by decide +kernel
theorem dX12_least_24 : decode cX12_least 24 = .ok (.ireturn, 1) := by decide +kernel
theorem dX12_least_25 : decode cX12_least 25 = .ok (.aload_n 0, 1) := by decide +kernel
theorem dX12_least_26 : decode cX12_least 26 = .ok (.getfield 9, 3) := by decide +kernel
theorem dX12_least_29 : decode cX12_least 29 = .ok (.iload_n 1, 1) := by decide +kernel
theorem dX12_least_30 : decode cX12_least 30 = .ok (.iaload, 1) := by decide +kernel
theorem dX12_least_31 : decode cX12_least 31 = .ok (.ifCond .eq 6, 3) := by decide +kernel
theorem dX12_least_34 : decode cX12_least 34 = .ok (.bipush (-3), 2) := by decide +kernel
theorem dX12_least_36 : decode cX12_least 36 = .ok (.ireturn, 1) := by decide +kernel
theorem dX12_least_37 : decode cX12_least 37 = .ok (.iconst 0, 1) := by decide +kernel
theorem dX12_least_38 : decode cX12_least 38 = .ok (.istore_n 3, 1) := by decide +kernel
theorem dX12_least_39 : decode cX12_least 39 = .ok (.iload_n 3, 1) := by decide +kernel
theorem dX12_least_40 : decode cX12_least 40 = .ok (.bipush 99, 2) := by decide +kernel
theorem dX12_least_42 : decode cX12_least 42 = .ok (.if_icmp .gt 44, 3) := by decide +kernel
theorem dX12_least_45 : decode cX12_least 45 = .ok (.aload_n 0, 1) := by decide +kernel
theorem dX12_least_46 : decode cX12_least 46 = .ok (.iload_n 1, 1) := by decide +kernel
theorem dX12_least_47 : decode cX12_least 47 = .ok (.iload_n 3, 1) := by decide +kernel
theorem dX12_least_48 : decode cX12_least 48 = .ok (.invokevirtual 290, 3) := by decide +kernel
theorem dX12_least_51 : decode cX12_least 51 = .ok (.istore 4, 2) := by decide +kernel
theorem dX12_least_53 : decode cX12_least 53 = .ok (.iload 4, 2) := by decide +kernel
theorem dX12_least_55 : decode cX12_least 55 = .ok (.iconst 0, 1) := by decide +kernel
theorem dX12_least_56 : decode cX12_least 56 = .ok (.iload_n 2, 1) := by decide +kernel
theorem dX12_least_57 : decode cX12_least 57 = .ok (.invokestatic 104, 3) := by decide +kernel
theorem dX12_least_60 : decode cX12_least 60 = .ok (.ifCond .ne 6, 3) := by decide +kernel
theorem dX12_least_63 : decode cX12_least 63 = .ok (.goto 17, 3) := by decide +kernel
theorem dX12_least_66 : decode cX12_least 66 = .ok (.aload_n 0, 1) := by decide +kernel
theorem dX12_least_67 : decode cX12_least 67 = .ok (.iconst 0, 1) := by decide +kernel
theorem dX12_least_68 : decode cX12_least 68 = .ok (.putfield 98, 3) := by decide +kernel
theorem dX12_least_71 : decode cX12_least 71 = .ok (.aload_n 0, 1) := by decide +kernel
theorem dX12_least_72 : decode cX12_least 72 = .ok (.iload 4, 2) := by decide +kernel
theorem dX12_least_74 : decode cX12_least 74 = .ok (.i2l, 1) := by decide +kernel
theorem dX12_least_75 : decode cX12_least 75 = .ok (.invokevirtual 267, 3) := by decide +kernel
theorem dX12_least_78 : decode cX12_least 78 = .ok (.iload_n 3, 1) := by decide +kernel
theorem dX12_least_79 : decode cX12_least 79 = .ok (.ireturn, 1) := by decide +kernel
theorem dX12_least_80 : decode cX12_least 80 = .ok (.iinc 3 1, 3) := by decide +kernel
theorem dX12_least_83 : decode cX12_least 83 = .ok (.goto (-44), 3) := by decide +kernel
theorem dX12_least_86 : decode cX12_least 86 = .ok (.bipush (-2), 2) := by decide +kernel
theorem dX12_least_88 : decode cX12_least 88 = .ok (.ireturn, 1) := by decide +kernel
theorem dX11_mercy_0 : decode cX11_mercy 0 = .ok (.aload_n 0, 1) := by decide +kernel
theorem dX11_mercy_1 : decode cX11_mercy 1 = .ok (.iload_n 1, 1) := by decide +kernel
theorem dX11_mercy_2 : decode cX11_mercy 2 = .ok (.invokevirtual 147, 3) := by decide +kernel
theorem dX11_mercy_5 : decode cX11_mercy 5 = .ok (.ifCond .eq 14, 3) := by decide +kernel
theorem dX11_mercy_8 : decode cX11_mercy 8 = .ok (.iload_n 2, 1) := by decide +kernel
theorem dX11_mercy_9 : decode cX11_mercy 9 = .ok (.iconst 1, 1) := by decide +kernel
theorem dX11_mercy_10 : decode cX11_mercy 10 = .ok (.if_icmp .lt 9, 3) := by decide +kernel
theorem dX11_mercy_13 : decode cX11_mercy 13 = .ok (.iload_n 2, 1) := by decide +kernel
theorem dX11_mercy_14 : decode cX11_mercy 14 = .ok (.bipush 60, 2) := by decide +kernel
theorem dX11_mercy_16 : decode cX11_mercy 16 = .ok (.if_icmp .le 5, 3) := by decide +kernel
theorem dX11_mercy_19 : decode cX11_mercy 19 = .ok (.iconst (-1), 1) := by decide +kernel
theorem dX11_mercy_20 : decode cX11_mercy 20 = .ok (.ireturn, 1) := by decide +kernel
theorem dX11_mercy_21 : decode cX11_mercy 21 = .ok (.aload_n 0, 1) := by decide +kernel
theorem dX11_mercy_22 : decode cX11_mercy 22 = .ok (.getfield 65, 3) := by decide +kernel
theorem dX11_mercy_25 : decode cX11_mercy 25 = .ok (.iload_n 1, 1) := by decide +kernel
theorem dX11_mercy_26 : decode cX11_mercy 26 = .ok (.invokevirtual 261, 3) := by decide +kernel
theorem dX11_mercy_29 : decode cX11_mercy 29 = .ok (.ifCond .ne 6, 3) := by decide +kernel
theorem dX11_mercy_32 : decode cX11_mercy 32 = .ok (.bipush (-3), 2) := by decide +kernel
theorem dX11_mercy_34 : decode cX11_mercy 34 = .ok (.ireturn, 1) := by decide +kernel
theorem dX11_mercy_35 : decode cX11_mercy 35 = .ok (.bipush 99, 2) := by decide +kernel
theorem dX11_mercy_37 : decode cX11_mercy 37 = .ok (.istore_n 3, 1) := by decide +kernel
theorem dX11_mercy_38 : decode cX11_mercy 38 = .ok (.iload_n 3, 1) := by decide +kernel
theorem dX11_mercy_39 : decode cX11_mercy 39 = .ok (.ifCond .le 27, 3) := by decide +kernel
theorem dX11_mercy_42 : decode cX11_mercy 42 = .ok (.aload_n 0, 1) := by decide +kernel
theorem dX11_mercy_43 : decode cX11_mercy 43 = .ok (.getfield 65, 3) := by decide +kernel
theorem dX11_mercy_46 : decode cX11_mercy 46 = .ok (.iload_n 1, 1) := by decide +kernel
theorem dX11_mercy_47 : decode cX11_mercy 47 = .ok (.iload_n 3, 1) := by decide +kernel
theorem dX11_mercy_48 : decode cX11_mercy 48 = .ok (.iload_n 2, 1) := by decide +kernel
theorem dX11_mercy_49 : decode cX11_mercy 49 = .ok (.iconst (-1), 1) := by decide +kernel
theorem dX11_mercy_50 : decode cX11_mercy 50 = .ok (.invokevirtual 264, 3) := by decide +kernel
theorem dX11_mercy_53 : decode cX11_mercy 53 = .ok (.bipush (-2), 2) := by decide +kernel
theorem dX11_mercy_55 : decode cX11_mercy 55 = .ok (.if_icmp .ne 5, 3) := by decide +kernel
theorem dX11_mercy_58 : decode cX11_mercy 58 = .ok (.iload_n 3, 1) := by decide +kernel
theorem dX11_mercy_59 : decode cX11_mercy 59 = .ok (.ireturn, 1) := by decide +kernel
theorem dX11_mercy_60 : decode cX11_mercy 60 = .ok (.iinc 3 (-1), 3) := by decide +kernel
theorem dX11_mercy_63 : decode cX11_mercy 63 = .ok (.goto (-25), 3) := by decide +kernel
theorem dX11_mercy_66 : decode cX11_mercy 66 = .ok (.iconst 0, 1) := by decide +kernel
theorem dX11_mercy_67 : decode cX11_mercy 67 = .ok (.ireturn, 1) := by decide +kernel
theorem dX12_mercy_0 : decode cX12_mercy 0 = .ok (.aload_n 0, 1) := by decide +kernel
theorem dX12_mercy_1 : decode cX12_mercy 1 = .ok (.iconst 0, 1) := by decide +kernel
theorem dX12_mercy_2 : decode cX12_mercy 2 = .ok (.putfield 95, 3) := by decide +kernel
theorem dX12_mercy_5 : decode cX12_mercy 5 = .ok (.aload_n 0, 1) := by decide +kernel
theorem dX12_mercy_6 : decode cX12_mercy 6 = .ok (.iload_n 1, 1) := by decide +kernel
theorem dX12_mercy_7 : decode cX12_mercy 7 = .ok (.invokevirtual 224, 3) := by decide +kernel
theorem dX12_mercy_10 : decode cX12_mercy 10 = .ok (.ifCond .eq 13, 3) := by decide +kernel
theorem dX12_mercy_13 : decode cX12_mercy 13 = .ok (.iload_n 2, 1) := by decide +kernel
theorem dX12_mercy_14 : decode cX12_mercy 14 = .ok (.iconst 1, 1) := by decide +kernel
theorem dX12_mercy_15 : decode cX12_mercy 15 = .ok (.bipush 60, 2) := by decide +kernel
theorem dX12_mercy_17 : decode cX12_mercy 17 = .ok (.invokestatic 104, 3) := by decide +kernel
theorem dX12_mercy_20 : decode cX12_mercy 20 = .ok (.ifCond .ne 5, 3) := by decide +kernel
theorem dX12_mercy_23 : decode cX12_mercy 23 = .ok (.iconst (-1), 1) := by decide +kernel
theorem dX12_mercy_24 : decode cX12_mercy 24 = .ok (.ireturn, 1) := by decide +kernel
theorem dX12_mercy_25 : decode cX12_mercy 25 = .ok (.aload_n 0, 1) := by decide +kernel
theorem dX12_mercy_26 : decode cX12_mercy 26 = .ok (.getfield 9, 3) := by decide +kernel
theorem dX12_mercy_29 : decode cX12_mercy 29 = .ok (.iload_n 1, 1) := by decide +kernel
theorem dX12_mercy_30 : decode cX12_mercy 30 = .ok (.iaload, 1) := by decide +kernel
theorem dX12_mercy_31 : decode cX12_mercy 31 = .ok (.ifCond .eq 6, 3) := by decide +kernel
theorem dX12_mercy_34 : decode cX12_mercy 34 = .ok (.bipush (-3), 2) := by decide +kernel
theorem dX12_mercy_36 : decode cX12_mercy 36 = .ok (.ireturn, 1) := by decide +kernel
theorem dX12_mercy_37 : decode cX12_mercy 37 = .ok (.bipush 99, 2) := by decide +kernel
theorem dX12_mercy_39 : decode cX12_mercy 39 = .ok (.istore_n 3, 1) := by decide +kernel
theorem dX12_mercy_40 : decode cX12_mercy 40 = .ok (.aload_n 0, 1) := by decide +kernel
theorem dX12_mercy_41 : decode cX12_mercy 41 = .ok (.iload_n 1, 1) := by decide +kernel
theorem dX12_mercy_42 : decode cX12_mercy 42 = .ok (.iload_n 3, 1) := by decide +kernel
theorem dX12_mercy_43 : decode cX12_mercy 43 = .ok (.iload_n 2, 1) := by decide +kernel
theorem dX12_mercy_44 : decode cX12_mercy 44 = .ok (.iconst 0, 1) := by decide +kernel
theorem dX12_mercy_45 : decode cX12_mercy 45 = .ok (.invokevirtual 286, 3) := by decide +kernel
theorem dX12_mercy_48 : decode cX12_mercy 48 = .ok (.ifCond .le 9, 3) := by decide +kernel
theorem dX12_mercy_51 : decode cX12_mercy 51 = .ok (.iinc 3 (-1), 3) := by decide +kernel
theorem dX12_mercy_54 : decode cX12_mercy 54 = .ok (.goto (-14), 3) := by decide +kernel
theorem dX12_mercy_57 : decode cX12_mercy 57 = .ok (.iload_n 3, 1) := by decide +kernel
theorem dX12_mercy_58 : decode cX12_mercy 58 = .ok (.ireturn, 1) := by decide +kernel
theorem dX11_longest_0 : decode cX11_longest 0 = .ok (.aload_n 0, 1) := by decide +kernel
theorem dX11_longest_1 : decode cX11_longest 1 = .ok (.iload_n 1, 1) := by decide +kernel
theorem dX11_longest_2 : decode cX11_longest 2 = .ok (.invokevirtual 147, 3) := by decide +kernel
theorem dX11_longest_5 : decode cX11_longest 5 = .ok (.ifCond .ne 5, 3) := by decide +kernel
theorem dX11_longest_8 : decode cX11_longest 8 = .ok (.iconst (-1), 1) := by decide +kernel
theorem dX11_longest_9 : decode cX11_longest 9 = .ok (.ireturn, 1) := by decide +kernel
theorem dX11_longest_10 : decode cX11_longest 10 = .ok (.aload_n 0, 1) := by decide +kernel
theorem dX11_longest_11 : decode cX11_longest 11 = .ok (.getfield 65, 3) := by decide +kernel
theorem dX11_longest_14 : decode cX11_longest 14 = .ok (.iload_n 1, 1) := by decide +kernel
theorem dX11_longest_15 : decode cX11_longest 15 = .ok (.invokevirtual 261, 3) := by decide +kernel
theorem dX11_longest_18 : decode cX11_longest 18 = .ok (.ifCond .ne 6, 3) := by decide +kernel
theorem dX11_longest_21 : decode cX11_longest 21 = .ok (.bipush (-3), 2) := by decide +kernel
theorem dX11_longest_23 : decode cX11_longest 23 = .ok (.ireturn, 1) := by decide +kernel
theorem dX11_longest_24 : decode cX11_longest 24 = .ok (.bipush (-2), 2) := by decide +kernel
theorem dX11_longest_26 : decode cX11_longest 26 = .ok (.istore_n 2, 1) := by decide +kernel
theorem dX11_longest_27 : decode cX11_longest 27 = .ok (.bipush (-2), 2) := by decide +kernel
theorem dX11_longest_29 : decode cX11_longest 29 = .ok (.istore_n 3, 1) := by decide +kernel
theorem dX11_longest_30 : decode cX11_longest 30 = .ok (.iconst 0, 1) := by decide +kernel
theorem dX11_longest_31 : decode cX11_longest 31 = .ok (.istore 4, 2) := by decide +kernel
theorem dX11_longest_33 : decode cX11_longest 33 = .ok (.iload 4, 2) := by decide +kernel
theorem dX11_longest_35 : decode cX11_longest 35 = .ok (.bipush 99, 2) := by decide +kernel
theorem dX11_longest_37 : decode cX11_longest 37 = .ok (.if_icmp .gt 37, 3) := by decide +kernel
theorem dX11_longest_40 : decode cX11_longest 40 = .ok (.aload_n 0, 1) := by decide +kernel
theorem dX11_longest_41 : decode cX11_longest 41 = .ok (.getfield 65, 3) := by decide +kernel
theorem dX11_longest_44 : decode cX11_longest 44 = .ok (.iload_n 1, 1) := by decide +kernel
theorem dX11_longest_45 : decode cX11_longest 45 = .ok (.iload 4, 2) := by decide +kernel
theorem dX11_longest_47 : decode cX11_longest 47 = .ok (.aload_n 0, 1) := by decide +kernel
theorem dX11_longest_48 : decode cX11_longest 48 = .ok (.getfield 100, 3) := by decide +kernel
theorem dX11_longest_51 : decode cX11_longest 51 = .ok (.invokevirtual 271, 3) := by decide +kernel
theorem dX11_longest_54 : decode cX11_longest 54 = .ok (.istore 5, 2) := by decide +kernel
theorem dX11_longest_56 : decode cX11_longest 56 = .ok (.iload 5, 2) := by decide +kernel
theorem dX11_longest_58 : decode cX11_longest 58 = .ok (.iload_n 3, 1) := by decide +kernel
theorem dX11_longest_59 : decode cX11_longest 59 = .ok (.if_icmp .le 9, 3) := by decide +kernel
theorem dX11_longest_62 : decode cX11_longest 62 = .ok (.iload 4, 2) := by decide +kernel
theorem dX11_longest_64 : decode cX11_longest 64 = .ok (.istore_n 2, 1) := by decide +kernel
theorem dX11_longest_65 : decode cX11_longest 65 = .ok (.iload 5, 2) := by decide +kernel
theorem dX11_longest_67 : decode cX11_longest 67 = .ok (.istore_n 3, 1) := by decide +kernel
theorem dX11_longest_68 : decode cX11_longest 68 = .ok (.iinc 4 1, 3) := by decide +kernel
theorem dX11_longest_71 : decode cX11_longest 71 = .ok (.goto (-38), 3) := by decide +kernel
theorem dX11_longest_74 : decode cX11_longest 74 = .ok (.iload_n 2, 1) := by decide +kernel
theorem dX11_longest_75 : decode cX11_longest 75 = .ok (.ifCond .lt 12, 3) := by decide +kernel
theorem dX11_longest_78 : decode cX11_longest 78 = .ok (.aload_n 0, 1) := by decide +kernel
theorem dX11_longest_79 : decode cX11_longest 79 = .ok (.getfield 19, 3) := by decide +kernel
theorem dX11_longest_82 : decode cX11_longest 82 = .ok (.iload_n 3, 1) := by decide +kernel
theorem dX11_longest_83 : decode cX11_longest 83 = .ok (.i2l, 1) := by decide +kernel
theorem dX11_longest_84 : decode cX11_longest 84 = .ok (.invokevirtual 228, 3) := by decide +kernel
theorem dX11_longest_87 : decode cX11_longest 87 = .ok (.iload_n 2, 1) := by decide +kernel
theorem dX11_longest_88 : decode cX11_longest 88 = .ok (.ireturn, 1) := by decide +kernel
theorem dX12_longest_0 : decode cX12_longest 0 = .ok (.aload_n 0, 1) := by decide +kernel
theorem dX12_longest_1 : decode cX12_longest 1 = .ok (.iconst 0, 1) := by decide +kernel
theorem dX12_longest_2 : decode cX12_longest 2 = .ok (.putfield 95, 3) := by decide +kernel
theorem dX12_longest_5 : decode cX12_longest 5 = .ok (.aload_n 0, 1) := by decide +kernel
theorem dX12_longest_6 : decode cX12_longest 6 = .ok (.iload_n 1, 1) := by decide +kernel
theorem dX12_longest_7 : decode cX12_longest 7 = .ok (.invokevirtual 224, 3) := by decide +kernel
theorem dX12_longest_10 : decode cX12_longest 10 = .ok (.ifCond .ne 5, 3) := by decide +kernel
theorem dX12_longest_13 : decode cX12_longest 13 = .ok (.iconst (-1), 1) := by decide +kernel
theorem dX12_longest_14 : decode cX12_longest 14 = .ok (.ireturn, 1) := by decide +kernel
theorem dX12_longest_15 : decode cX12_longest 15 = .ok (.aload_n 0, 1) := by decide +kernel
theorem dX12_longest_16 : decode cX12_longest 16 = .ok (.getfield 9, 3) := by decide +kernel
theorem dX12_longest_19 : decode cX12_longest 19 = .ok (.iload_n 1, 1) := by decide +kernel
theorem dX12_longest_20 : decode cX12_longest 20 = .ok (.iaload, 1) := by decide +kernel
theorem dX12_longest_21 : decode cX12_longest 21 = .ok (.ifCond .eq 6, 3) := by decide +kernel
theorem dX12_longest_24 : decode cX12_longest 24 = .ok (.bipush (-3), 2) := by decide +kernel
theorem dX12_longest_26 : decode cX12_longest 26 = .ok (.ireturn, 1) := by decide +kernel
theorem dX12_longest_27 : decode cX12_longest 27 = .ok (.bipush (-2), 2) := by decide +kernel
theorem dX12_longest_29 : decode cX12_longest 29 = .ok (.istore_n 2, 1) := by decide +kernel
theorem dX12_longest_30 : decode cX12_longest 30 = .ok (.iconst (-1), 1) := by decide +kernel
theorem dX12_longest_31 : decode cX12_longest 31 = .ok (.istore_n 3, 1) := by decide +kernel
theorem dX12_longest_32 : decode cX12_longest 32 = .ok (.iconst 0, 1) := by decide +kernel
theorem dX12_longest_33 : decode cX12_longest 33 = .ok (.istore 4, 2) := by decide +kernel
theorem dX12_longest_35 : decode cX12_longest 35 = .ok (.iload 4, 2) := by decide +kernel
theorem dX12_longest_37 : decode cX12_longest 37 = .ok (.bipush 99, 2) := by decide +kernel
theorem dX12_longest_39 : decode cX12_longest 39 = .ok (.if_icmp .gt 33, 3) := by decide +kernel
theorem dX12_longest_42 : decode cX12_longest 42 = .ok (.aload_n 0, 1) := by decide +kernel
theorem dX12_longest_43 : decode cX12_longest 43 = .ok (.iload_n 1, 1) := by decide +kernel
theorem dX12_longest_44 : decode cX12_longest 44 = .ok (.iload 4, 2) := by decide +kernel
theorem dX12_longest_46 : decode cX12_longest 46 = .ok (.invokevirtual 290, 3) := by decide +kernel
theorem dX12_longest_49 : decode cX12_longest 49 = .ok (.istore 5, 2) := by decide +kernel
theorem dX12_longest_51 : decode cX12_longest 51 = .ok (.iload 5, 2) := by decide +kernel
theorem dX12_longest_53 : decode cX12_longest 53 = .ok (.iload_n 3, 1) := by decide +kernel
theorem dX12_longest_54 : decode cX12_longest 54 = .ok (.if_icmp .gt 6, 3) := by decide +kernel
theorem dX12_longest_57 : decode cX12_longest 57 = .ok (.goto 9, 3) := by decide +kernel
theorem dX12_longest_60 : decode cX12_longest 60 = .ok (.iload 4, 2) := by decide +kernel
theorem dX12_longest_62 : decode cX12_longest 62 = .ok (.istore_n 2, 1) := by decide +kernel
theorem dX12_longest_63 : decode cX12_longest 63 = .ok (.iload 5, 2) := by decide +kernel
theorem dX12_longest_65 : decode cX12_longest 65 = .ok (.istore_n 3, 1) := by decide +kernel
theorem dX12_longest_66 : decode cX12_longest 66 = .ok (.iinc 4 1, 3) := by decide +kernel
theorem dX12_longest_69 : decode cX12_longest 69 = .ok (.goto (-34), 3) := by decide +kernel
theorem dX12_longest_72 : decode cX12_longest 72 = .ok (.iload_n 2, 1) := by decide +kernel
theorem dX12_longest_73 : decode cX12_longest 73 = .ok (.bipush (-2), 2) := by decide +kernel
theorem dX12_longest_75 : decode cX12_longest 75 = .ok (.if_icmp .ne 6, 3) := by decide +kernel
theorem dX12_longest_78 : decode cX12_longest 78 = .ok (.bipush (-2), 2) := by decide +kernel
theorem dX12_longest_80 : decode cX12_longest 80 = .ok (.ireturn, 1) := by decide +kernel
theorem dX12_longest_81 : decode cX12_longest 81 = .ok (.aload_n 0, 1) := by decide +kernel
theorem dX12_longest_82 : decode cX12_longest 82 = .ok (.iconst 0, 1) := by decide +kernel
theorem dX12_longest_83 : decode cX12_longest 83 = .ok (.putfield 98, 3) := by decide +kernel
theorem dX12_longest_86 : decode cX12_longest 86 = .ok (.aload_n 0, 1) := by decide +kernel
theorem dX12_longest_87 : decode cX12_longest 87 = .ok (.iload_n 3, 1) := by decide +kernel
theorem dX12_longest_88 : decode cX12_longest 88 = .ok (.i2l, 1) := by decide +kernel
theorem dX12_longest_89 : decode cX12_longest 89 = .ok (.invokevirtual 267, 3) := by decide +kernel
theorem dX12_longest_92 : decode cX12_longest 92 = .ok (.iload_n 2, 1) := by decide +kernel
theorem dX12_longest_93 : decode cX12_longest 93 = .ok (.ireturn, 1) := by decide +kernel
theorem dX11_alike_0 : decode cX11_alike 0 = .ok (.aload_n 0, 1) := by decide +kernel
theorem dX11_alike_1 : decode cX11_alike 1 = .ok (.iload_n 1, 1) := by decide +kernel
theorem dX11_alike_2 : decode cX11_alike 2 = .ok (.invokevirtual 147, 3) := by decide +kernel
theorem dX11_alike_5 : decode cX11_alike 5 = .ok (.ifCond .eq 16, 3) := by decide +kernel
theorem dX11_alike_8 : decode cX11_alike 8 = .ok (.aload_n 0, 1) := by decide +kernel
theorem dX11_alike_9 : decode cX11_alike 9 = .ok (.iload_n 2, 1) := by decide +kernel
theorem dX11_alike_10 : decode cX11_alike 10 = .ok (.invokevirtual 147, 3) := by decide +kernel
theorem dX11_alike_13 : decode cX11_alike 13 = .ok (.ifCond .eq 8, 3) := by decide +kernel
theorem dX11_alike_16 : decode cX11_alike 16 = .ok (.iload_n 1, 1) := by decide +kernel
theorem dX11_alike_17 : decode cX11_alike 17 = .ok (.iload_n 2, 1) := by decide +kernel
theorem dX11_alike_18 : decode cX11_alike 18 = .ok (.if_icmp .ne 5, 3) := by decide +kernel
theorem dX11_alike_21 : decode cX11_alike 21 = .ok (.iconst (-1), 1) := by decide +kernel
theorem dX11_alike_22 : decode cX11_alike 22 = .ok (.ireturn, 1) := by decide +kernel
theorem dX11_alike_23 : decode cX11_alike 23 = .ok (.aload_n 0, 1) := by decide +kernel
theorem dX11_alike_24 : decode cX11_alike 24 = .ok (.getfield 65, 3) := by decide +kernel
theorem dX11_alike_27 : decode cX11_alike 27 = .ok (.iload_n 1, 1) := by decide +kernel
theorem dX11_alike_28 : decode cX11_alike 28 = .ok (.invokevirtual 261, 3) := by decide +kernel
theorem dX11_alike_31 : decode cX11_alike 31 = .ok (.ifCond .eq 14, 3) := by decide +kernel
theorem dX11_alike_34 : decode cX11_alike 34 = .ok (.aload_n 0, 1) := by decide +kernel
theorem dX11_alike_35 : decode cX11_alike 35 = .ok (.getfield 65, 3) := by decide +kernel
theorem dX11_alike_38 : decode cX11_alike 38 = .ok (.iload_n 2, 1) := by decide +kernel
theorem dX11_alike_39 : decode cX11_alike 39 = .ok (.invokevirtual 261, 3) := by decide +kernel
theorem dX11_alike_42 : decode cX11_alike 42 = .ok (.ifCond .ne 6, 3) := by decide +kernel
theorem dX11_alike_45 : decode cX11_alike 45 = .ok (.bipush (-3), 2) := by decide +kernel
theorem dX11_alike_47 : decode cX11_alike 47 = .ok (.ireturn, 1) := by decide +kernel
theorem dX11_alike_48 : decode cX11_alike 48 = .ok (.iconst 0, 1) := by decide +kernel
theorem dX11_alike_49 : decode cX11_alike 49 = .ok (.istore_n 3, 1) := by decide +kernel
theorem dX11_alike_50 : decode cX11_alike 50 = .ok (.iconst (-1), 1) := by decide +kernel
theorem dX11_alike_51 : decode cX11_alike 51 = .ok (.istore 4, 2) := by decide +kernel
theorem dX11_alike_53 : decode cX11_alike 53 = .ok (.iconst 0, 1) := by decide +kernel
theorem dX11_alike_54 : decode cX11_alike 54 = .ok (.istore 5, 2) := by decide +kernel
theorem dX11_alike_56 : decode cX11_alike 56 = .ok (.iload 5, 2) := by decide +kernel
theorem dX11_alike_58 : decode cX11_alike 58 = .ok (.bipush 99, 2) := by decide +kernel
theorem dX11_alike_60 : decode cX11_alike 60 = .ok (.if_icmp .gt 56, 3) := by decide +kernel
theorem dX11_alike_63 : decode cX11_alike 63 = .ok (.aload_n 0, 1) := by decide +kernel
theorem dX11_alike_64 : decode cX11_alike 64 = .ok (.getfield 65, 3) := by decide +kernel
theorem dX11_alike_67 : decode cX11_alike 67 = .ok (.iload_n 1, 1) := by decide +kernel
theorem dX11_alike_68 : decode cX11_alike 68 = .ok (.iload 5, 2) := by decide +kernel
theorem dX11_alike_70 : decode cX11_alike 70 = .ok (.aload_n 0, 1) := by decide +kernel
theorem dX11_alike_71 : decode cX11_alike 71 = .ok (.getfield 100, 3) := by decide +kernel
theorem dX11_alike_74 : decode cX11_alike 74 = .ok (.invokevirtual 271, 3) := by decide +kernel
theorem dX11_alike_77 : decode cX11_alike 77 = .ok (.aload_n 0, 1) := by decide +kernel
theorem dX11_alike_78 : decode cX11_alike 78 = .ok (.getfield 65, 3) := by decide +kernel
theorem dX11_alike_81 : decode cX11_alike 81 = .ok (.iload_n 2, 1) := by decide +kernel
theorem dX11_alike_82 : decode cX11_alike 82 = .ok (.iload 5, 2) := by decide +kernel
theorem dX11_alike_84 : decode cX11_alike 84 = .ok (.aload_n 0, 1) := by decide +kernel
theorem dX11_alike_85 : decode cX11_alike 85 = .ok (.getfield 100, 3) := by decide +kernel
theorem dX11_alike_88 : decode cX11_alike 88 = .ok (.invokevirtual 271, 3) := by decide +kernel
theorem dX11_alike_91 : decode cX11_alike 91 = .ok (.if_icmp .eq 19, 3) := by decide +kernel
theorem dX11_alike_94 : decode cX11_alike 94 = .ok (.iload_n 3, 1) := by decide +kernel
theorem dX11_alike_95 : decode cX11_alike 95 = .ok (.ifCond .ne 8, 3) := by decide +kernel
theorem dX11_alike_98 : decode cX11_alike 98 = .ok (.iload 5, 2) := by decide +kernel
theorem dX11_alike_100 : decode cX11_alike 100 = .ok (.goto 5, 3) := by decide +kernel
theorem dX11_alike_103 : decode cX11_alike 103 = .ok (.iload 4, 2) := by decide +kernel
theorem dX11_alike_105 : decode cX11_alike 105 = .ok (.istore 4, 2) := by decide +kernel
theorem dX11_alike_107 : decode cX11_alike 107 = .ok (.iinc 3 1, 3) := by decide +kernel
theorem dX11_alike_110 : decode cX11_alike 110 = .ok (.iinc 5 1, 3) := by decide +kernel
theorem dX11_alike_113 : decode cX11_alike 113 = .ok (.goto (-57), 3) := by decide +kernel
theorem dX11_alike_116 : decode cX11_alike 116 = .ok (.aload_n 0, 1) := by decide +kernel
theorem dX11_alike_117 : decode cX11_alike 117 = .ok (.getfield 19, 3) := by decide +kernel
theorem dX11_alike_120 : decode cX11_alike 120 = .ok (.iload 4, 2) := by decide +kernel
theorem dX11_alike_122 : decode cX11_alike 122 = .ok (.i2l, 1) := by decide +kernel
theorem dX11_alike_123 : decode cX11_alike 123 = .ok (.invokevirtual 228, 3) := by decide +kernel
theorem dX11_alike_126 : decode cX11_alike 126 = .ok (.iload_n 3, 1) := by decide +kernel
theorem dX11_alike_127 : decode cX11_alike 127 = .ok (.ireturn, 1) := by decide +kernel
theorem dX12_alike_0 : decode cX12_alike 0 = .ok (.aload_n 0, 1) := by decide +kernel
theorem dX12_alike_1 : decode cX12_alike 1 = .ok (.iconst 0, 1) := by decide +kernel
theorem dX12_alike_2 : decode cX12_alike 2 = .ok (.putfield 95, 3) := by decide +kernel
theorem dX12_alike_5 : decode cX12_alike 5 = .ok (.aload_n 0, 1) := by decide +kernel
theorem dX12_alike_6 : decode cX12_alike 6 = .ok (.iload_n 1, 1) := by decide +kernel
theorem dX12_alike_7 : decode cX12_alike 7 = .ok (.invokevirtual 224, 3) := by decide +kernel
theorem dX12_alike_10 : decode cX12_alike 10 = .ok (.ifCond .eq 16, 3) := by decide +kernel
theorem dX12_alike_13 : decode cX12_alike 13 = .ok (.aload_n 0, 1) := by decide +kernel
theorem dX12_alike_14 : decode cX12_alike 14 = .ok (.iload_n 2, 1) := by decide +kernel
theorem dX12_alike_15 : decode cX12_alike 15 = .ok (.invokevirtual 224, 3) := by decide +kernel
theorem dX12_alike_18 : decode cX12_alike 18 = .ok (.ifCond .eq 8, 3) := by decide +kernel
theorem dX12_alike_21 : decode cX12_alike 21 = .ok (.iload_n 1, 1) := by decide +kernel
theorem dX12_alike_22 : decode cX12_alike 22 = .ok (.iload_n 2, 1) := by decide +kernel
theorem dX12_alike_23 : decode cX12_alike 23 = .ok (.if_icmp .ne 5, 3) := by decide +kernel
theorem dX12_alike_26 : decode cX12_alike 26 = .ok (.iconst (-1), 1) := by decide +kernel
theorem dX12_alike_27 : decode cX12_alike 27 = .ok (.ireturn, 1) := by decide +kernel
theorem dX12_alike_28 : decode cX12_alike 28 = .ok (.aload_n 0, 1) := by decide +kernel
theorem dX12_alike_29 : decode cX12_alike 29 = .ok (.getfield 9, 3) := by decide +kernel
theorem dX12_alike_32 : decode cX12_alike 32 = .ok (.iload_n 1, 1) := by decide +kernel
theorem dX12_alike_33 : decode cX12_alike 33 = .ok (.iaload, 1) := by decide +kernel
theorem dX12_alike_34 : decode cX12_alike 34 = .ok (.ifCond .ne 12, 3) := by decide +kernel
theorem dX12_alike_37 : decode cX12_alike 37 = .ok (.aload_n 0, 1) := by decide +kernel
theorem dX12_alike_38 : decode cX12_alike 38 = .ok (.getfield 9, 3) := by decide +kernel
theorem dX12_alike_41 : decode cX12_alike 41 = .ok (.iload_n 2, 1) := by decide +kernel
theorem dX12_alike_42 : decode cX12_alike 42 = .ok (.iaload, 1) := by decide +kernel
theorem dX12_alike_43 : decode cX12_alike 43 = .ok (.ifCond .eq 6, 3) := by decide +kernel
theorem dX12_alike_46 : decode cX12_alike 46 = .ok (.bipush (-3), 2) := by decide +kernel
theorem dX12_alike_48 : decode cX12_alike 48 = .ok (.ireturn, 1) := by decide +kernel
theorem dX12_alike_49 : decode cX12_alike 49 = .ok (.iconst 0, 1) := by decide +kernel
theorem dX12_alike_50 : decode cX12_alike 50 = .ok (.istore_n 3, 1) := by decide +kernel
theorem dX12_alike_51 : decode cX12_alike 51 = .ok (.iconst (-1), 1) := by decide +kernel
theorem dX12_alike_52 : decode cX12_alike 52 = .ok (.istore 4, 2) := by decide +kernel
theorem dX12_alike_54 : decode cX12_alike 54 = .ok (.iconst 0, 1) := by decide +kernel
theorem dX12_alike_55 : decode cX12_alike 55 = .ok (.istore 5, 2) := by decide +kernel
theorem dX12_alike_57 : decode cX12_alike 57 = .ok (.iload 5, 2) := by decide +kernel
theorem dX12_alike_59 : decode cX12_alike 59 = .ok (.bipush 99, 2) := by decide +kernel
theorem dX12_alike_61 : decode cX12_alike 61 = .ok (.if_icmp .gt 45, 3) := by decide +kernel
theorem dX12_alike_64 : decode cX12_alike 64 = .ok (.aload_n 0, 1) := by decide +kernel
theorem dX12_alike_65 : decode cX12_alike 65 = .ok (.iload_n 1, 1) := by decide +kernel
theorem dX12_alike_66 : decode cX12_alike 66 = .ok (.iload 5, 2) := by decide +kernel
theorem dX12_alike_68 : decode cX12_alike 68 = .ok (.invokevirtual 290, 3) := by decide +kernel
theorem dX12_alike_71 : decode cX12_alike 71 = .ok (.aload_n 0, 1) := by decide +kernel
theorem dX12_alike_72 : decode cX12_alike 72 = .ok (.iload_n 2, 1) := by decide +kernel
theorem dX12_alike_73 : decode cX12_alike 73 = .ok (.iload 5, 2) := by decide +kernel
theorem dX12_alike_75 : decode cX12_alike 75 = .ok (.invokevirtual 290, 3) := by decide +kernel
theorem dX12_alike_78 : decode cX12_alike 78 = .ok (.if_icmp .ne 6, 3) := by decide +kernel
theorem dX12_alike_81 : decode cX12_alike 81 = .ok (.goto 19, 3) := by decide +kernel
theorem dX12_alike_84 : decode cX12_alike 84 = .ok (.iload_n 3, 1) := by decide +kernel
theorem dX12_alike_85 : decode cX12_alike 85 = .ok (.ifCond .ne 8, 3) := by decide +kernel
theorem dX12_alike_88 : decode cX12_alike 88 = .ok (.iload 5, 2) := by decide +kernel
theorem dX12_alike_90 : decode cX12_alike 90 = .ok (.goto 5, 3) := by decide +kernel
theorem dX12_alike_93 : decode cX12_alike 93 = .ok (.iload 4, 2) := by decide +kernel
theorem dX12_alike_95 : decode cX12_alike 95 = .ok (.istore 4, 2) := by decide +kernel
theorem dX12_alike_97 : decode cX12_alike 97 = .ok (.iinc 3 1, 3) := by decide +kernel
theorem dX12_alike_100 : decode cX12_alike 100 = .ok (.iinc 5 1, 3) := by decide +kernel
theorem dX12_alike_103 : decode cX12_alike 103 = .ok (.goto (-46), 3) := by decide +kernel
theorem dX12_alike_106 : decode cX12_alike 106 = .ok (.aload_n 0, 1) := by decide +kernel
theorem dX12_alike_107 : decode cX12_alike 107 = .ok (.iconst 0, 1) := by decide +kernel
theorem dX12_alike_108 : decode cX12_alike 108 = .ok (.putfield 98, 3) := by decide +kernel
theorem dX12_alike_111 : decode cX12_alike 111 = .ok (.aload_n 0, 1) := by decide +kernel
theorem dX12_alike_112 : decode cX12_alike 112 = .ok (.iload 4, 2) := by decide +kernel
theorem dX12_alike_114 : decode cX12_alike 114 = .ok (.i2l, 1) := by decide +kernel
theorem dX12_alike_115 : decode cX12_alike 115 = .ok (.invokevirtual 267, 3) := by decide +kernel
theorem dX12_alike_118 : decode cX12_alike 118 = .ok (.iload_n 3, 1) := by decide +kernel
theorem dX12_alike_119 : decode cX12_alike 119 = .ok (.ireturn, 1) := by decide +kernel
theorem dJ6_bitCount_0f7a4_0 : decode cJ6_bitCount_0f7a4 0 = .ok (.iload_n 0, 1) := by decide +kernel
theorem dJ6_bitCount_0f7a4_1 : decode cJ6_bitCount_0f7a4 1 = .ok (.iload_n 0, 1) := by decide +kernel
theorem dJ6_bitCount_0f7a4_2 : decode cJ6_bitCount_0f7a4 2 = .ok (.iconst 1, 1) := by decide +kernel
theorem dJ6_bitCount_0f7a4_3 : decode cJ6_bitCount_0f7a4 3 = .ok (.iushr, 1) := by decide +kernel
theorem dJ6_bitCount_0f7a4_4 : decode cJ6_bitCount_0f7a4 4 = .ok (.ldc_w 265, 3) := by decide +kernel
theorem dJ6_bitCount_0f7a4_7 : decode cJ6_bitCount_0f7a4 7 = .ok (.iand, 1) := by decide +kernel
theorem dJ6_bitCount_0f7a4_8 : decode cJ6_bitCount_0f7a4 8 = .ok (.isub, 1) := by decide +kernel
theorem dJ6_bitCount_0f7a4_9 : decode cJ6_bitCount_0f7a4 9 = .ok (.istore_n 0, 1) := by decide +kernel
theorem dJ6_bitCount_0f7a4_10 : decode cJ6_bitCount_0f7a4 10 = .ok (.iload_n 0, 1) := by decide +kernel
theorem dJ6_bitCount_0f7a4_11 : decode cJ6_bitCount_0f7a4 11 = .ok (.ldc_w 266, 3) := by decide +kernel
theorem dJ6_bitCount_0f7a4_14 : decode cJ6_bitCount_0f7a4 14 = .ok (.iand, 1) := by decide +kernel
theorem dJ6_bitCount_0f7a4_15 : decode cJ6_bitCount_0f7a4 15 = .ok (.iload_n 0, 1) := by decide +kernel
theorem dJ6_bitCount_0f7a4_16 : decode cJ6_bitCount_0f7a4 16 = .ok (.iconst 2, 1) := by decide +kernel
theorem dJ6_bitCount_0f7a4_17 : decode cJ6_bitCount_0f7a4 17 = .ok (.iushr, 1) := by decide +kernel
theorem dJ6_bitCount_0f7a4_18 : decode cJ6_bitCount_0f7a4 18 = .ok (.ldc_w 266, 3) := by decide +kernel
theorem dJ6_bitCount_0f7a4_21 : decode cJ6_bitCount_0f7a4 21 = .ok (.iand, 1) := by decide +kernel
theorem dJ6_bitCount_0f7a4_22 : decode cJ6_bitCount_0f7a4 22 = .ok (.iadd, 1) := by decide +kernel
theorem dJ6_bitCount_0f7a4_23 : decode cJ6_bitCount_0f7a4 23 = .ok (.istore_n 0, 1) := by decide +kernel
theorem dJ6_bitCount_0f7a4_24 : decode cJ6_bitCount_0f7a4 24 = .ok (.iload_n 0, 1) := by decide +kernel
theorem dJ6_bitCount_0f7a4_25 : decode cJ6_bitCount_0f7a4 25 = .ok (.iload_n 0, 1) := by decide +kernel
theorem dJ6_bitCount_0f7a4_26 : decode cJ6_bitCount_0f7a4 26 = .ok (.iconst 4, 1) := by decide +kernel
theorem dJ6_bitCount_0f7a4_27 : decode cJ6_bitCount_0f7a4 27 = .ok (.iushr, 1) := by decide +kernel
theorem dJ6_bitCount_0f7a4_28 : decode cJ6_bitCount_0f7a4 28 = .ok (.iadd, 1) := by decide +kernel
theorem dJ6_bitCount_0f7a4_29 : decode cJ6_bitCount_0f7a4 29 = .ok (.ldc_w 267, 3) := by decide +kernel
theorem dJ6_bitCount_0f7a4_32 : decode cJ6_bitCount_0f7a4 32 = .ok (.iand, 1) := by decide +kernel
theorem dJ6_bitCount_0f7a4_33 : decode cJ6_bitCount_0f7a4 33 = .ok (.istore_n 0, 1) := by decide +kernel
theorem dJ6_bitCount_0f7a4_34 : decode cJ6_bitCount_0f7a4 34 = .ok (.iload_n 0, 1) := by decide +kernel
theorem dJ6_bitCount_0f7a4_35 : decode cJ6_bitCount_0f7a4 35 = .ok (.iload_n 0, 1) := by decide +kernel
theorem dJ6_bitCount_0f7a4_36 : decode cJ6_bitCount_0f7a4 36 = .ok (.bipush 8, 2) := by decide +kernel
theorem dJ6_bitCount_0f7a4_38 : decode cJ6_bitCount_0f7a4 38 = .ok (.iushr, 1) := by decide +kernel
theorem dJ6_bitCount_0f7a4_39 : decode cJ6_bitCount_0f7a4 39 = .ok (.iadd, 1) := by decide +kernel
theorem dJ6_bitCount_0f7a4_40 : decode cJ6_bitCount_0f7a4 40 = .ok (.istore_n 0, 1) := by decide +kernel
theorem dJ6_bitCount_0f7a4_41 : decode cJ6_bitCount_0f7a4 41 = .ok (.iload_n 0, 1) := by decide +kernel
theorem dJ6_bitCount_0f7a4_42 : decode cJ6_bitCount_0f7a4 42 = .ok (.iload_n 0, 1) := by decide +kernel
theorem dJ6_bitCount_0f7a4_43 : decode cJ6_bitCount_0f7a4 43 = .ok (.bipush 16, 2) := by decide +kernel
theorem dJ6_bitCount_0f7a4_45 : decode cJ6_bitCount_0f7a4 45 = .ok (.iushr, 1) := by decide +kernel
theorem dJ6_bitCount_0f7a4_46 : decode cJ6_bitCount_0f7a4 46 = .ok (.iadd, 1) := by decide +kernel
theorem dJ6_bitCount_0f7a4_47 : decode cJ6_bitCount_0f7a4 47 = .ok (.istore_n 0, 1) := by decide +kernel
theorem dJ6_bitCount_0f7a4_48 : decode cJ6_bitCount_0f7a4 48 = .ok (.iload_n 0, 1) := by decide +kernel
theorem dJ6_bitCount_0f7a4_49 : decode cJ6_bitCount_0f7a4 49 = .ok (.bipush 63, 2) := by decide +kernel
theorem dJ6_bitCount_0f7a4_51 : decode cJ6_bitCount_0f7a4 51 = .ok (.iand, 1) := by decide +kernel
theorem dJ6_bitCount_0f7a4_52 : decode cJ6_bitCount_0f7a4 52 = .ok (.ireturn, 1) := by decide +kernel
theorem dX11_stonesOnOne_0 : decode cX11_stonesOnOne 0 = .ok (.iload_n 2, 1) := by decide +kernel
theorem dX11_stonesOnOne_1 : decode cX11_stonesOnOne 1 = .ok (.iload_n 1, 1) := by decide +kernel
theorem dX11_stonesOnOne_2 : decode cX11_stonesOnOne 2 = .ok (.ishr, 1) := by decide +kernel
theorem dX11_stonesOnOne_3 : decode cX11_stonesOnOne 3 = .ok (.iconst 1, 1) := by decide +kernel
theorem dX11_stonesOnOne_4 : decode cX11_stonesOnOne 4 = .ok (.iand, 1) := by decide +kernel
theorem dX11_stonesOnOne_5 : decode cX11_stonesOnOne 5 = .ok (.ifCond .ne 7, 3) := by decide +kernel
theorem dX11_stonesOnOne_8 : decode cX11_stonesOnOne 8 = .ok (.iconst 0, 1) := by decide +kernel
theorem dX11_stonesOnOne_9 : decode cX11_stonesOnOne 9 = .ok (.goto 9, 3) := by decide +kernel
theorem dX11_stonesOnOne_12 : decode cX11_stonesOnOne 12 = .ok (.aload_n 0, 1) := by decide +kernel
theorem dX11_stonesOnOne_13 : decode cX11_stonesOnOne 13 = .ok (.getfield 96, 3) := by decide +kernel
theorem dX11_stonesOnOne_16 : decode cX11_stonesOnOne 16 = .ok (.iload_n 1, 1) := by decide +kernel
theorem dX11_stonesOnOne_17 : decode cX11_stonesOnOne 17 = .ok (.iaload, 1) := by decide +kernel
theorem dX11_stonesOnOne_18 : decode cX11_stonesOnOne 18 = .ok (.ireturn, 1) := by decide +kernel
theorem dX11_stonesOn_0 : decode cX11_stonesOn 0 = .ok (.iconst 0, 1) := by decide +kernel
theorem dX11_stonesOn_1 : decode cX11_stonesOn 1 = .ok (.istore_n 2, 1) := by decide +kernel
theorem dX11_stonesOn_2 : decode cX11_stonesOn 2 = .ok (.iconst 0, 1) := by decide +kernel
theorem dX11_stonesOn_3 : decode cX11_stonesOn 3 = .ok (.istore_n 3, 1) := by decide +kernel
theorem dX11_stonesOn_4 : decode cX11_stonesOn 4 = .ok (.iload_n 3, 1) := by decide +kernel
theorem dX11_stonesOn_5 : decode cX11_stonesOn 5 = .ok (.aload_n 0, 1) := by decide +kernel
theorem dX11_stonesOn_6 : decode cX11_stonesOn 6 = .ok (.getfield 26, 3) := by decide +kernel
theorem dX11_stonesOn_9 : decode cX11_stonesOn 9 = .ok (.getfield 119, 3) := by decide +kernel
theorem dX11_stonesOn_12 : decode cX11_stonesOn 12 = .ok (.if_icmp .ge 29, 3) := by decide +kernel
theorem dX11_stonesOn_15 : decode cX11_stonesOn 15 = .ok (.aload_n 0, 1) := by decide +kernel
theorem dX11_stonesOn_16 : decode cX11_stonesOn 16 = .ok (.iload_n 3, 1) := by decide +kernel
theorem dX11_stonesOn_17 : decode cX11_stonesOn 17 = .ok (.iload_n 1, 1) := by decide +kernel
theorem dX11_stonesOn_18 : decode cX11_stonesOn 18 = .ok (.invokevirtual 287, 3) := by decide +kernel
theorem dX11_stonesOn_21 : decode cX11_stonesOn 21 = .ok (.ifCond .ge 5, 3) := by decide +kernel
theorem dX11_stonesOn_24 : decode cX11_stonesOn 24 = .ok (.iconst (-1), 1) := by decide +kernel
theorem dX11_stonesOn_25 : decode cX11_stonesOn 25 = .ok (.ireturn, 1) := by decide +kernel
theorem dX11_stonesOn_26 : decode cX11_stonesOn 26 = .ok (.iload_n 2, 1) := by decide +kernel
theorem dX11_stonesOn_27 : decode cX11_stonesOn 27 = .ok (.aload_n 0, 1) := by decide +kernel
theorem dX11_stonesOn_28 : decode cX11_stonesOn 28 = .ok (.iload_n 3, 1) := by decide +kernel
theorem dX11_stonesOn_29 : decode cX11_stonesOn 29 = .ok (.iload_n 1, 1) := by decide +kernel
theorem dX11_stonesOn_30 : decode cX11_stonesOn 30 = .ok (.invokevirtual 287, 3) := by decide +kernel
theorem dX11_stonesOn_33 : decode cX11_stonesOn 33 = .ok (.iadd, 1) := by decide +kernel
theorem dX11_stonesOn_34 : decode cX11_stonesOn 34 = .ok (.istore_n 2, 1) := by decide +kernel
theorem dX11_stonesOn_35 : decode cX11_stonesOn 35 = .ok (.iinc 3 1, 3) := by decide +kernel
theorem dX11_stonesOn_38 : decode cX11_stonesOn 38 = .ok (.goto (-34), 3) := by decide +kernel
theorem dX11_stonesOn_41 : decode cX11_stonesOn 41 = .ok (.iload_n 2, 1) := by decide +kernel
theorem dX11_stonesOn_42 : decode cX11_stonesOn 42 = .ok (.ireturn, 1) := by decide +kernel
theorem dX11_isBetterLaid_0 : decode cX11_isBetterLaid 0 = .ok (.iload_n 1, 1) := by decide +kernel
theorem dX11_isBetterLaid_1 : decode cX11_isBetterLaid 1 = .ok (.invokestatic 292, 3) := by decide +kernel
theorem dX11_isBetterLaid_4 : decode cX11_isBetterLaid 4 = .ok (.iload_n 2, 1) := by decide +kernel
theorem dX11_isBetterLaid_5 : decode cX11_isBetterLaid 5 = .ok (.invokestatic 292, 3) := by decide +kernel
theorem dX11_isBetterLaid_8 : decode cX11_isBetterLaid 8 = .ok (.isub, 1) := by decide +kernel
theorem dX11_isBetterLaid_9 : decode cX11_isBetterLaid 9 = .ok (.istore_n 3, 1) := by decide +kernel
theorem dX11_isBetterLaid_10 : decode cX11_isBetterLaid 10 = .ok (.aload_n 0, 1) := by decide +kernel
theorem dX11_isBetterLaid_11 : decode cX11_isBetterLaid 11 = .ok (.iload_n 1, 1) := by decide +kernel
theorem dX11_isBetterLaid_12 : decode cX11_isBetterLaid 12 = .ok (.invokevirtual 277, 3) := by decide +kernel
theorem dX11_isBetterLaid_15 : decode cX11_isBetterLaid 15 = .ok (.aload_n 0, 1) := by decide +kernel
theorem dX11_isBetterLaid_16 : decode cX11_isBetterLaid 16 = .ok (.iload_n 2, 1) := by decide +kernel
theorem dX11_isBetterLaid_17 : decode cX11_isBetterLaid 17 = .ok (.invokevirtual 277, 3) := by decide +kernel
theorem dX11_isBetterLaid_20 : decode cX11_isBetterLaid 20 = .ok (.isub, 1) := by decide +kernel
theorem dX11_isBetterLaid_21 : decode cX11_isBetterLaid 21 = .ok (.istore 4, 2) := by decide +kernel
theorem dX11_isBetterLaid_23 : decode cX11_isBetterLaid 23 = .ok (.iload_n 3, 1) := by decide +kernel
theorem dX11_isBetterLaid_24 : decode cX11_isBetterLaid 24 = .ok (.ifCond .ne 8, 3) := by decide +kernel
theorem dX11_isBetterLaid_27 : decode cX11_isBetterLaid 27 = .ok (.iload 4, 2) := by decide +kernel
theorem dX11_isBetterLaid_29 : decode cX11_isBetterLaid 29 = .ok (.ifCond .eq 22, 3) := by decide +kernel
theorem dX11_isBetterLaid_32 : decode cX11_isBetterLaid 32 = .ok (.iload_n 3, 1) := by decide +kernel
theorem dX11_isBetterLaid_33 : decode cX11_isBetterLaid 33 = .ok (.ifCond .gt 12, 3) := by decide +kernel
theorem dX11_isBetterLaid_36 : decode cX11_isBetterLaid 36 = .ok (.iload_n 3, 1) := by decide +kernel
theorem dX11_isBetterLaid_37 : decode cX11_isBetterLaid 37 = .ok (.ifCond .ne 12, 3) := by decide +kernel
theorem dX11_isBetterLaid_40 : decode cX11_isBetterLaid 40 = .ok (.iload 4, 2) := by decide +kernel
theorem dX11_isBetterLaid_42 : decode cX11_isBetterLaid 42 = .ok (.ifCond .ge 7, 3) := by decide +kernel
theorem dX11_isBetterLaid_45 : decode cX11_isBetterLaid 45 = .ok (.iconst 1, 1) := by decide +kernel
theorem dX11_isBetterLaid_46 : decode cX11_isBetterLaid 46 = .ok (.goto 4, 3) := by decide +kernel
theorem dX11_isBetterLaid_49 : decode cX11_isBetterLaid 49 = .ok (.iconst 0, 1) := by decide +kernel
theorem dX11_isBetterLaid_50 : decode cX11_isBetterLaid 50 = .ok (.ireturn, 1) := by decide +kernel
theorem dX11_isBetterLaid_51 : decode cX11_isBetterLaid 51 = .ok (.iconst 0, 1) := by decide +kernel
theorem dX11_isBetterLaid_52 : decode cX11_isBetterLaid 52 = .ok (.istore 5, 2) := by decide +kernel
theorem dX11_isBetterLaid_54 : decode cX11_isBetterLaid 54 = .ok (.iload 5, 2) := by decide +kernel
theorem dX11_isBetterLaid_56 : decode cX11_isBetterLaid 56 = .ok (.aload_n 0, 1) := by decide +kernel
theorem dX11_isBetterLaid_57 : decode cX11_isBetterLaid 57 = .ok (.getfield 26, 3) := by decide +kernel
theorem dX11_isBetterLaid_60 : decode cX11_isBetterLaid 60 = .ok (.getfield 119, 3) := by decide +kernel
theorem dX11_isBetterLaid_63 : decode cX11_isBetterLaid 63 = .ok (.if_icmp .ge 42, 3) := by decide +kernel
theorem dX11_isBetterLaid_66 : decode cX11_isBetterLaid 66 = .ok (.aload_n 0, 1) := by decide +kernel
theorem dX11_isBetterLaid_67 : decode cX11_isBetterLaid 67 = .ok (.iload 5, 2) := by decide +kernel
theorem dX11_isBetterLaid_69 : decode cX11_isBetterLaid 69 = .ok (.iload_n 1, 1) := by decide +kernel
theorem dX11_isBetterLaid_70 : decode cX11_isBetterLaid 70 = .ok (.invokevirtual 287, 3) := by decide +kernel
theorem dX11_isBetterLaid_73 : decode cX11_isBetterLaid 73 = .ok (.aload_n 0, 1) := by decide +kernel
theorem dX11_isBetterLaid_74 : decode cX11_isBetterLaid 74 = .ok (.iload 5, 2) := by decide +kernel
theorem dX11_isBetterLaid_76 : decode cX11_isBetterLaid 76 = .ok (.iload_n 2, 1) := by decide +kernel
theorem dX11_isBetterLaid_77 : decode cX11_isBetterLaid 77 = .ok (.invokevirtual 287, 3) := by decide +kernel
theorem dX11_isBetterLaid_80 : decode cX11_isBetterLaid 80 = .ok (.isub, 1) := by decide +kernel
theorem dX11_isBetterLaid_81 : decode cX11_isBetterLaid 81 = .ok (.istore 6, 2) := by decide +kernel
theorem dX11_isBetterLaid_83 : decode cX11_isBetterLaid 83 = .ok (.iload 6, 2) := by decide +kernel
theorem dX11_isBetterLaid_85 : decode cX11_isBetterLaid 85 = .ok (.ifCond .eq 14, 3) := by decide +kernel
theorem dX11_isBetterLaid_88 : decode cX11_isBetterLaid 88 = .ok (.iload 6, 2) := by decide +kernel
theorem dX11_isBetterLaid_90 : decode cX11_isBetterLaid 90 = .ok (.ifCond .ge 7, 3) := by decide +kernel
theorem dX11_isBetterLaid_93 : decode cX11_isBetterLaid 93 = .ok (.iconst 1, 1) := by decide +kernel
theorem dX11_isBetterLaid_94 : decode cX11_isBetterLaid 94 = .ok (.goto 4, 3) := by decide +kernel
theorem dX11_isBetterLaid_97 : decode cX11_isBetterLaid 97 = .ok (.iconst 0, 1) := by decide +kernel
theorem dX11_isBetterLaid_98 : decode cX11_isBetterLaid 98 = .ok (.ireturn, 1) := by decide +kernel
theorem dX11_isBetterLaid_99 : decode cX11_isBetterLaid 99 = .ok (.iinc 5 1, 3) := by decide +kernel
theorem dX11_isBetterLaid_102 : decode cX11_isBetterLaid 102 = .ok (.goto (-48), 3) := by decide +kernel
theorem dX11_isBetterLaid_105 : decode cX11_isBetterLaid 105 = .ok (.iconst 0, 1) := by decide +kernel
theorem dX11_isBetterLaid_106 : decode cX11_isBetterLaid 106 = .ok (.ireturn, 1) := by decide +kernel
theorem dX11_leastStones_0 : decode cX11_leastStones 0 = .ok (.aload_n 0, 1) := by decide +kernel
theorem dX11_leastStones_1 : decode cX11_leastStones 1 = .ok (.getfield 65, 3) := by decide +kernel
theorem dX11_leastStones_4 : decode cX11_leastStones 4 = .ok (.iload_n 1, 1) := by decide +kernel
theorem dX11_leastStones_5 : decode cX11_leastStones 5 = .ok (.invokevirtual 261, 3) := by decide +kernel
theorem dX11_leastStones_8 : decode cX11_leastStones 8 = .ok (.ifCond .ne 5, 3) := by decide +kernel
theorem dX11_leastStones_11 : decode cX11_leastStones 11 = .ok (.iconst (-1), 1) := by decide +kernel
theorem dX11_leastStones_12 : decode cX11_leastStones 12 = .ok (.ireturn, 1) := by decide +kernel
theorem dX11_leastStones_13 : decode cX11_leastStones 13 = .ok (.iconst 0, 1) := by decide +kernel
theorem dX11_leastStones_14 : decode cX11_leastStones 14 = .ok (.istore_n 2, 1) := by decide +kernel
theorem dX11_leastStones_15 : decode cX11_leastStones 15 = .ok (.iload_n 2, 1) := by decide +kernel
theorem dX11_leastStones_16 : decode cX11_leastStones 16 = .ok (.bipush 90, 2) := by decide +kernel
theorem dX11_leastStones_18 : decode cX11_leastStones 18 = .ok (.if_icmp .gt 27, 3) := by decide +kernel
theorem dX11_leastStones_21 : decode cX11_leastStones 21 = .ok (.aload_n 0, 1) := by decide +kernel
theorem dX11_leastStones_22 : decode cX11_leastStones 22 = .ok (.getfield 65, 3) := by decide +kernel
theorem dX11_leastStones_25 : decode cX11_leastStones 25 = .ok (.iload_n 1, 1) := by decide +kernel
theorem dX11_leastStones_26 : decode cX11_leastStones 26 = .ok (.iload_n 2, 1) := by decide +kernel
theorem dX11_leastStones_27 : decode cX11_leastStones 27 = .ok (.aload_n 0, 1) := by decide +kernel
theorem dX11_leastStones_28 : decode cX11_leastStones 28 = .ok (.getfield 100, 3) := by decide +kernel
theorem dX11_leastStones_31 : decode cX11_leastStones 31 = .ok (.invokevirtual 271, 3) := by decide +kernel
theorem dX11_leastStones_34 : decode cX11_leastStones 34 = .ok (.ifCond .lt 5, 3) := by decide +kernel
theorem dX11_leastStones_37 : decode cX11_leastStones 37 = .ok (.iload_n 2, 1) := by decide +kernel
theorem dX11_leastStones_38 : decode cX11_leastStones 38 = .ok (.ireturn, 1) := by decide +kernel
theorem dX11_leastStones_39 : decode cX11_leastStones 39 = .ok (.iinc 2 10, 3) := by decide +kernel
theorem dX11_leastStones_42 : decode cX11_leastStones 42 = .ok (.goto (-27), 3) := by decide +kernel
theorem dX11_leastStones_45 : decode cX11_leastStones 45 = .ok (.iconst (-1), 1) := by decide +kernel
theorem dX11_leastStones_46 : decode cX11_leastStones 46 = .ok (.ireturn, 1) := by decide +kernel
theorem dX11_stones_0 : decode cX11_stones 0 = .ok (.iload_n 1, 1) := by decide +kernel
theorem dX11_stones_1 : decode cX11_stones 1 = .ok (.ifCond .lt 10, 3) := by decide +kernel
theorem dX11_stones_4 : decode cX11_stones 4 = .ok (.iload_n 1, 1) := by decide +kernel
theorem dX11_stones_5 : decode cX11_stones 5 = .ok (.sipush 400, 3) := by decide +kernel
theorem dX11_stones_8 : decode cX11_stones 8 = .ok (.if_icmp .le 5, 3) := by decide +kernel
theorem dX11_stones_11 : decode cX11_stones 11 = .ok (.iconst (-1), 1) := by decide +kernel
theorem dX11_stones_12 : decode cX11_stones 12 = .ok (.ireturn, 1) := by decide +kernel
theorem dX11_stones_13 : decode cX11_stones 13 = .ok (.iconst 0, 1) := by decide +kernel
theorem dX11_stones_14 : decode cX11_stones 14 = .ok (.istore_n 2, 1) := by decide +kernel
theorem dX11_stones_15 : decode cX11_stones 15 = .ok (.iload_n 2, 1) := by decide +kernel
theorem dX11_stones_16 : decode cX11_stones 16 = .ok (.aload_n 0, 1) := by decide +kernel
theorem dX11_stones_17 : decode cX11_stones 17 = .ok (.getfield 26, 3) := by decide +kernel
theorem dX11_stones_20 : decode cX11_stones 20 = .ok (.getfield 119, 3) := by decide +kernel
theorem dX11_stones_23 : decode cX11_stones 23 = .ok (.if_icmp .ge 20, 3) := by decide +kernel
theorem dX11_stones_26 : decode cX11_stones 26 = .ok (.aload_n 0, 1) := by decide +kernel
theorem dX11_stones_27 : decode cX11_stones 27 = .ok (.getfield 96, 3) := by decide +kernel
theorem dX11_stones_30 : decode cX11_stones 30 = .ok (.iload_n 2, 1) := by decide +kernel
theorem dX11_stones_31 : decode cX11_stones 31 = .ok (.aload_n 0, 1) := by decide +kernel
theorem dX11_stones_32 : decode cX11_stones 32 = .ok (.iload_n 2, 1) := by decide +kernel
theorem dX11_stones_33 : decode cX11_stones 33 = .ok (.invokevirtual 274, 3) := by decide +kernel
theorem dX11_stones_36 : decode cX11_stones 36 = .ok (.iastore, 1) := by decide +kernel
theorem dX11_stones_37 : decode cX11_stones 37 = .ok (.iinc 2 1, 3) := by decide +kernel
theorem dX11_stones_40 : decode cX11_stones 40 = .ok (.goto (-25), 3) := by decide +kernel
theorem dX11_stones_43 : decode cX11_stones 43 = .ok (.iconst 0, 1) := by decide +kernel
theorem dX11_stones_44 : decode cX11_stones 44 = .ok (.istore_n 2, 1) := by decide +kernel
theorem dX11_stones_45 : decode cX11_stones 45 = .ok (.iconst 1, 1) := by decide +kernel
theorem dX11_stones_46 : decode cX11_stones 46 = .ok (.istore_n 3, 1) := by decide +kernel
theorem dX11_stones_47 : decode cX11_stones 47 = .ok (.iload_n 3, 1) := by decide +kernel
theorem dX11_stones_48 : decode cX11_stones 48 = .ok (.iconst 1, 1) := by decide +kernel
theorem dX11_stones_49 : decode cX11_stones 49 = .ok (.aload_n 0, 1) := by decide +kernel
theorem dX11_stones_50 : decode cX11_stones 50 = .ok (.getfield 26, 3) := by decide +kernel
theorem dX11_stones_53 : decode cX11_stones 53 = .ok (.getfield 119, 3) := by decide +kernel
theorem dX11_stones_56 : decode cX11_stones 56 = .ok (.ishl, 1) := by decide +kernel
theorem dX11_stones_57 : decode cX11_stones 57 = .ok (.if_icmp .ge 38, 3) := by decide +kernel
theorem dX11_stones_60 : decode cX11_stones 60 = .ok (.aload_n 0, 1) := by decide +kernel
theorem dX11_stones_61 : decode cX11_stones 61 = .ok (.iload_n 3, 1) := by decide +kernel
theorem dX11_stones_62 : decode cX11_stones 62 = .ok (.invokevirtual 277, 3) := by decide +kernel
theorem dX11_stones_65 : decode cX11_stones 65 = .ok (.istore 4, 2) := by decide +kernel
theorem dX11_stones_67 : decode cX11_stones 67 = .ok (.iload 4, 2) := by decide +kernel
theorem dX11_stones_69 : decode cX11_stones 69 = .ok (.ifCond .lt 20, 3) := by decide +kernel
theorem dX11_stones_72 : decode cX11_stones 72 = .ok (.iload 4, 2) := by decide +kernel
theorem dX11_stones_74 : decode cX11_stones 74 = .ok (.iload_n 1, 1) := by decide +kernel
theorem dX11_stones_75 : decode cX11_stones 75 = .ok (.if_icmp .gt 14, 3) := by decide +kernel
theorem dX11_stones_78 : decode cX11_stones 78 = .ok (.aload_n 0, 1) := by decide +kernel
theorem dX11_stones_79 : decode cX11_stones 79 = .ok (.iload_n 3, 1) := by decide +kernel
theorem dX11_stones_80 : decode cX11_stones 80 = .ok (.iload_n 2, 1) := by decide +kernel
theorem dX11_stones_81 : decode cX11_stones 81 = .ok (.invokevirtual 280, 3) := by decide +kernel
theorem dX11_stones_84 : decode cX11_stones 84 = .ok (.ifCond .eq 5, 3) := by decide +kernel
theorem dX11_stones_87 : decode cX11_stones 87 = .ok (.iload_n 3, 1) := by decide +kernel
theorem dX11_stones_88 : decode cX11_stones 88 = .ok (.istore_n 2, 1) := by decide +kernel
theorem dX11_stones_89 : decode cX11_stones 89 = .ok (.iinc 3 1, 3) := by decide +kernel
theorem dX11_stones_92 : decode cX11_stones 92 = .ok (.goto (-45), 3) := by decide +kernel
theorem dX11_stones_95 : decode cX11_stones 95 = .ok (.aload_n 0, 1) := by decide +kernel
theorem dX11_stones_96 : decode cX11_stones 96 = .ok (.getfield 19, 3) := by decide +kernel
theorem dX11_stones_99 : decode cX11_stones 99 = .ok (.invokevirtual 284, 3) := by decide +kernel
theorem dX11_stones_102 : decode cX11_stones 102 = .ok (.iconst 0, 1) := by decide +kernel
theorem dX11_stones_103 : decode cX11_stones 103 = .ok (.istore_n 3, 1) := by decide +kernel
theorem dX11_stones_104 : decode cX11_stones 104 = .ok (.iload_n 3, 1) := by decide +kernel
theorem dX11_stones_105 : decode cX11_stones 105 = .ok (.aload_n 0, 1) := by decide +kernel
theorem dX11_stones_106 : decode cX11_stones 106 = .ok (.getfield 26, 3) := by decide +kernel
theorem dX11_stones_109 : decode cX11_stones 109 = .ok (.getfield 119, 3) := by decide +kernel
theorem dX11_stones_112 : decode cX11_stones 112 = .ok (.if_icmp .ge 23, 3) := by decide +kernel
theorem dX11_stones_115 : decode cX11_stones 115 = .ok (.aload_n 0, 1) := by decide +kernel
theorem dX11_stones_116 : decode cX11_stones 116 = .ok (.getfield 19, 3) := by decide +kernel
theorem dX11_stones_119 : decode cX11_stones 119 = .ok (.aload_n 0, 1) := by decide +kernel
theorem dX11_stones_120 : decode cX11_stones 120 = .ok (.iload_n 3, 1) := by decide +kernel
theorem dX11_stones_121 : decode cX11_stones 121 = .ok (.iload_n 2, 1) := by decide +kernel
theorem dX11_stones_122 : decode cX11_stones 122 = .ok (.invokevirtual 287, 3) := by decide +kernel
theorem dX11_stones_125 : decode cX11_stones 125 = .ok (.i2l, 1) := by decide +kernel
theorem dX11_stones_126 : decode cX11_stones 126 = .ok (.invokevirtual 290, 3) := by decide +kernel
theorem dX11_stones_129 : decode cX11_stones 129 = .ok (.iinc 3 1, 3) := by decide +kernel
theorem dX11_stones_132 : decode cX11_stones 132 = .ok (.goto (-28), 3) := by decide +kernel
theorem dX11_stones_135 : decode cX11_stones 135 = .ok (.iload_n 2, 1) := by decide +kernel
theorem dX11_stones_136 : decode cX11_stones 136 = .ok (.invokestatic 292, 3) := by decide +kernel
theorem dX11_stones_139 : decode cX11_stones 139 = .ok (.ireturn, 1) := by decide +kernel
theorem dX12_isLessRow_0 : decode cX12_isLessRow 0 = .ok (.iconst 0, 1) := by decide +kernel
theorem dX12_isLessRow_1 : decode cX12_isLessRow 1 = .ok (.istore_n 3, 1) := by decide +kernel
theorem dX12_isLessRow_2 : decode cX12_isLessRow 2 = .ok (.iload_n 3, 1) := by decide +kernel
theorem dX12_isLessRow_3 : decode cX12_isLessRow 3 = .ok (.aload_n 0, 1) := by decide +kernel
theorem dX12_isLessRow_4 : decode cX12_isLessRow 4 = .ok (.getfield 101, 3) := by decide +kernel
theorem dX12_isLessRow_7 : decode cX12_isLessRow 7 = .ok (.if_icmp .ge 69, 3) := by decide +kernel
theorem dX12_isLessRow_10 : decode cX12_isLessRow 10 = .ok (.iload_n 1, 1) := by decide +kernel
theorem dX12_isLessRow_11 : decode cX12_isLessRow 11 = .ok (.iload_n 3, 1) := by decide +kernel
theorem dX12_isLessRow_12 : decode cX12_isLessRow 12 = .ok (.invokestatic 158, 3) := by decide +kernel
theorem dX12_isLessRow_15 : decode cX12_isLessRow 15 = .ok (.ifCond .eq 12, 3) := by decide +kernel
theorem dX12_isLessRow_18 : decode cX12_isLessRow 18 = .ok (.aload_n 0, 1) := by decide +kernel
theorem dX12_isLessRow_19 : decode cX12_isLessRow 19 = .ok (.getfield 74, 3) := by decide +kernel
theorem dX12_isLessRow_22 : decode cX12_isLessRow 22 = .ok (.iload_n 3, 1) := by decide +kernel
theorem dX12_isLessRow_23 : decode cX12_isLessRow 23 = .ok (.iaload, 1) := by decide +kernel
theorem dX12_isLessRow_24 : decode cX12_isLessRow 24 = .ok (.goto 4, 3) := by decide +kernel
theorem dX12_isLessRow_27 : decode cX12_isLessRow 27 = .ok (.iconst 0, 1) := by decide +kernel
theorem dX12_isLessRow_28 : decode cX12_isLessRow 28 = .ok (.istore 4, 2) := by decide +kernel
theorem dX12_isLessRow_30 : decode cX12_isLessRow 30 = .ok (.iload_n 2, 1) := by decide +kernel
theorem dX12_isLessRow_31 : decode cX12_isLessRow 31 = .ok (.iload_n 3, 1) := by decide +kernel
theorem dX12_isLessRow_32 : decode cX12_isLessRow 32 = .ok (.invokestatic 158, 3) := by decide +kernel
theorem dX12_isLessRow_35 : decode cX12_isLessRow 35 = .ok (.ifCond .eq 12, 3) := by decide +kernel
theorem dX12_isLessRow_38 : decode cX12_isLessRow 38 = .ok (.aload_n 0, 1) := by decide +kernel
theorem dX12_isLessRow_39 : decode cX12_isLessRow 39 = .ok (.getfield 74, 3) := by decide +kernel
theorem dX12_isLessRow_42 : decode cX12_isLessRow 42 = .ok (.iload_n 3, 1) := by decide +kernel
theorem dX12_isLessRow_43 : decode cX12_isLessRow 43 = .ok (.iaload, 1) := by decide +kernel
theorem dX12_isLessRow_44 : decode cX12_isLessRow 44 = .ok (.goto 4, 3) := by decide +kernel
theorem dX12_isLessRow_47 : decode cX12_isLessRow 47 = .ok (.iconst 0, 1) := by decide +kernel
theorem dX12_isLessRow_48 : decode cX12_isLessRow 48 = .ok (.istore 5, 2) := by decide +kernel
theorem dX12_isLessRow_50 : decode cX12_isLessRow 50 = .ok (.iload 4, 2) := by decide +kernel
theorem dX12_isLessRow_52 : decode cX12_isLessRow 52 = .ok (.iload 5, 2) := by decide +kernel
theorem dX12_isLessRow_54 : decode cX12_isLessRow 54 = .ok (.if_icmp .eq 16, 3) := by decide +kernel
theorem dX12_isLessRow_57 : decode cX12_isLessRow 57 = .ok (.iload 4, 2) := by decide +kernel
theorem dX12_isLessRow_59 : decode cX12_isLessRow 59 = .ok (.iload 5, 2) := by decide +kernel
theorem dX12_isLessRow_61 : decode cX12_isLessRow 61 = .ok (.if_icmp .ge 7, 3) := by decide +kernel
theorem dX12_isLessRow_64 : decode cX12_isLessRow 64 = .ok (.iconst 1, 1) := by decide +kernel
theorem dX12_isLessRow_65 : decode cX12_isLessRow 65 = .ok (.goto 4, 3) := by decide +kernel
theorem dX12_isLessRow_68 : decode cX12_isLessRow 68 = .ok (.iconst 0, 1) := by decide +kernel
theorem dX12_isLessRow_69 : decode cX12_isLessRow 69 = .ok (.ireturn, 1) := by decide +kernel
theorem dX12_isLessRow_70 : decode cX12_isLessRow 70 = .ok (.iinc 3 1, 3) := by decide +kernel
theorem dX12_isLessRow_73 : decode cX12_isLessRow 73 = .ok (.goto (-71), 3) := by decide +kernel
theorem dX12_isLessRow_76 : decode cX12_isLessRow 76 = .ok (.iconst 0, 1) := by decide +kernel
theorem dX12_isLessRow_77 : decode cX12_isLessRow 77 = .ok (.ireturn, 1) := by decide +kernel
theorem dX12_stonesOf_0 : decode cX12_stonesOf 0 = .ok (.iconst 0, 1) := by decide +kernel
theorem dX12_stonesOf_1 : decode cX12_stonesOf 1 = .ok (.istore_n 2, 1) := by decide +kernel
theorem dX12_stonesOf_2 : decode cX12_stonesOf 2 = .ok (.iconst 0, 1) := by decide +kernel
theorem dX12_stonesOf_3 : decode cX12_stonesOf 3 = .ok (.istore_n 3, 1) := by decide +kernel
theorem dX12_stonesOf_4 : decode cX12_stonesOf 4 = .ok (.iload_n 3, 1) := by decide +kernel
theorem dX12_stonesOf_5 : decode cX12_stonesOf 5 = .ok (.aload_n 0, 1) := by decide +kernel
theorem dX12_stonesOf_6 : decode cX12_stonesOf 6 = .ok (.getfield 101, 3) := by decide +kernel
theorem dX12_stonesOf_9 : decode cX12_stonesOf 9 = .ok (.if_icmp .ge 30, 3) := by decide +kernel
theorem dX12_stonesOf_12 : decode cX12_stonesOf 12 = .ok (.iload_n 2, 1) := by decide +kernel
theorem dX12_stonesOf_13 : decode cX12_stonesOf 13 = .ok (.iload_n 1, 1) := by decide +kernel
theorem dX12_stonesOf_14 : decode cX12_stonesOf 14 = .ok (.iload_n 3, 1) := by decide +kernel
theorem dX12_stonesOf_15 : decode cX12_stonesOf 15 = .ok (.invokestatic 158, 3) := by decide +kernel
theorem dX12_stonesOf_18 : decode cX12_stonesOf 18 = .ok (.ifCond .eq 12, 3) := by decide +kernel
theorem dX12_stonesOf_21 : decode cX12_stonesOf 21 = .ok (.aload_n 0, 1) := by decide +kernel
theorem dX12_stonesOf_22 : decode cX12_stonesOf 22 = .ok (.getfield 74, 3) := by decide +kernel
theorem dX12_stonesOf_25 : decode cX12_stonesOf 25 = .ok (.iload_n 3, 1) := by decide +kernel
theorem dX12_stonesOf_26 : decode cX12_stonesOf 26 = .ok (.iaload, 1) := by decide +kernel
theorem dX12_stonesOf_27 : decode cX12_stonesOf 27 = .ok (.goto 4, 3) := by decide +kernel
theorem dX12_stonesOf_30 : decode cX12_stonesOf 30 = .ok (.iconst 0, 1) := by decide +kernel
theorem dX12_stonesOf_31 : decode cX12_stonesOf 31 = .ok (.iadd, 1) := by decide +kernel
theorem dX12_stonesOf_32 : decode cX12_stonesOf 32 = .ok (.istore_n 2, 1) := by decide +kernel
theorem dX12_stonesOf_33 : decode cX12_stonesOf 33 = .ok (.iinc 3 1, 3) := by decide +kernel
theorem dX12_stonesOf_36 : decode cX12_stonesOf 36 = .ok (.goto (-32), 3) := by decide +kernel
theorem dX12_stonesOf_39 : decode cX12_stonesOf 39 = .ok (.iload_n 2, 1) := by decide +kernel
theorem dX12_stonesOf_40 : decode cX12_stonesOf 40 = .ok (.ireturn, 1) := by decide +kernel
theorem dX12_stones_0 : decode cX12_stones 0 = .ok (.aload_n 0, 1) := by decide +kernel
theorem dX12_stones_1 : decode cX12_stones 1 = .ok (.iconst 0, 1) := by decide +kernel
theorem dX12_stones_2 : decode cX12_stones 2 = .ok (.putfield 95, 3) := by decide +kernel
theorem dX12_stones_5 : decode cX12_stones 5 = .ok (.iload_n 1, 1) := by decide +kernel
theorem dX12_stones_6 : decode cX12_stones 6 = .ok (.iconst 0, 1) := by decide +kernel
theorem dX12_stones_7 : decode cX12_stones 7 = .ok (.sipush 400, 3) := by decide +kernel
theorem dX12_stones_10 : decode cX12_stones 10 = .ok (.invokestatic 104, 3) := by decide +kernel
theorem dX12_stones_13 : decode cX12_stones 13 = .ok (.ifCond .ne 5, 3) := by decide +kernel
theorem dX12_stones_16 : decode cX12_stones 16 = .ok (.iconst (-1), 1) := by decide +kernel
theorem dX12_stones_17 : decode cX12_stones 17 = .ok (.ireturn, 1) := by decide +kernel
theorem dX12_stones_18 : decode cX12_stones 18 = .ok (.iconst 0, 1) := by decide +kernel
theorem dX12_stones_19 : decode cX12_stones 19 = .ok (.istore_n 2, 1) := by decide +kernel
theorem dX12_stones_20 : decode cX12_stones 20 = .ok (.iconst 0, 1) := by decide +kernel
theorem dX12_stones_21 : decode cX12_stones 21 = .ok (.istore_n 3, 1) := by decide +kernel
theorem dX12_stones_22 : decode cX12_stones 22 = .ok (.iload_n 3, 1) := by decide +kernel
theorem dX12_stones_23 : decode cX12_stones 23 = .ok (.aload_n 0, 1) := by decide +kernel
theorem dX12_stones_24 : decode cX12_stones 24 = .ok (.getfield 101, 3) := by decide +kernel
theorem dX12_stones_27 : decode cX12_stones 27 = .ok (.if_icmp .ge 78, 3) := by decide +kernel
theorem dX12_stones_30 : decode cX12_stones 30 = .ok (.aload_n 0, 1) := by decide +kernel
theorem dX12_stones_31 : decode cX12_stones 31 = .ok (.getfield 74, 3) := by decide +kernel
theorem dX12_stones_34 : decode cX12_stones 34 = .ok (.iload_n 3, 1) := by decide +kernel
theorem dX12_stones_35 : decode cX12_stones 35 = .ok (.iconst (-1), 1) := by decide +kernel
theorem dX12_stones_36 : decode cX12_stones 36 = .ok (.iastore, 1) := by decide +kernel
theorem dX12_stones_37 : decode cX12_stones 37 = .ok (.bipush 90, 2) := by decide +kernel
theorem dX12_stones_39 : decode cX12_stones 39 = .ok (.istore 4, 2) := by decide +kernel
theorem dX12_stones_41 : decode cX12_stones 41 = .ok (.iload 4, 2) := by decide +kernel
theorem dX12_stones_43 : decode cX12_stones 43 = .ok (.ifCond .lt 36, 3) := by decide +kernel
theorem dX12_stones_46 : decode cX12_stones 46 = .ok (.aload_n 0, 1) := by decide +kernel
theorem dX12_stones_47 : decode cX12_stones 47 = .ok (.getfield 9, 3) := by decide +kernel
theorem dX12_stones_50 : decode cX12_stones 50 = .ok (.iload_n 3, 1) := by decide +kernel
theorem dX12_stones_51 : decode cX12_stones 51 = .ok (.iaload, 1) := by decide +kernel
theorem dX12_stones_52 : decode cX12_stones 52 = .ok (.ifCond .ne 21, 3) := by decide +kernel
theorem dX12_stones_55 : decode cX12_stones 55 = .ok (.aload_n 0, 1) := by decide +kernel
theorem dX12_stones_56 : decode cX12_stones 56 = .ok (.iload_n 3, 1) := by decide +kernel
theorem dX12_stones_57 : decode cX12_stones 57 = .ok (.iload 4, 2) := by decide +kernel
theorem dX12_stones_59 : decode cX12_stones 59 = .ok (.invokevirtual 290, 3) := by decide +kernel
theorem dX12_stones_62 : decode cX12_stones 62 = .ok (.ifCond .lt 11, 3) := by decide +kernel
theorem dX12_stones_65 : decode cX12_stones 65 = .ok (.aload_n 0, 1) := by decide +kernel
theorem dX12_stones_66 : decode cX12_stones 66 = .ok (.getfield 74, 3) := by decide +kernel
theorem dX12_stones_69 : decode cX12_stones 69 = .ok (.iload_n 3, 1) := by decide +kernel
theorem dX12_stones_70 : decode cX12_stones 70 = .ok (.iload 4, 2) := by decide +kernel
theorem dX12_stones_72 : decode cX12_stones 72 = .ok (.iastore, 1) := by decide +kernel
theorem dX12_stones_73 : decode cX12_stones 73 = .ok (.iinc 4 (-10), 3) := by decide +kernel
theorem dX12_stones_76 : decode cX12_stones 76 = .ok (.goto (-35), 3) := by decide +kernel
theorem dX12_stones_79 : decode cX12_stones 79 = .ok (.iload_n 2, 1) := by decide +kernel
theorem dX12_stones_80 : decode cX12_stones 80 = .ok (.aload_n 0, 1) := by decide +kernel
theorem dX12_stones_81 : decode cX12_stones 81 = .ok (.getfield 74, 3) := by decide +kernel
theorem dX12_stones_84 : decode cX12_stones 84 = .ok (.iload_n 3, 1) := by decide +kernel
theorem dX12_stones_85 : decode cX12_stones 85 = .ok (.iaload, 1) := by decide +kernel
theorem dX12_stones_86 : decode cX12_stones 86 = .ok (.iconst (-1), 1) := by decide +kernel
theorem dX12_stones_87 : decode cX12_stones 87 = .ok (.if_icmp .ne 7, 3) := by decide +kernel
theorem dX12_stones_90 : decode cX12_stones 90 = .ok (.iconst 0, 1) := by decide +kernel
theorem dX12_stones_91 : decode cX12_stones 91 = .ok (.goto 6, 3) := by decide +kernel
theorem dX12_stones_94 : decode cX12_stones 94 = .ok (.iconst 1, 1) := by decide +kernel
theorem dX12_stones_95 : decode cX12_stones 95 = .ok (.iload_n 3, 1) := by decide +kernel
theorem dX12_stones_96 : decode cX12_stones 96 = .ok (.ishl, 1) := by decide +kernel
theorem dX12_stones_97 : decode cX12_stones 97 = .ok (.ior, 1) := by decide +kernel
theorem dX12_stones_98 : decode cX12_stones 98 = .ok (.istore_n 2, 1) := by decide +kernel
theorem dX12_stones_99 : decode cX12_stones 99 = .ok (.iinc 3 1, 3) := by decide +kernel
theorem dX12_stones_102 : decode cX12_stones 102 = .ok (.goto (-80), 3) := by decide +kernel
theorem dX12_stones_105 : decode cX12_stones 105 = .ok (.iconst 0, 1) := by decide +kernel
theorem dX12_stones_106 : decode cX12_stones 106 = .ok (.istore_n 3, 1) := by decide +kernel
theorem dX12_stones_107 : decode cX12_stones 107 = .ok (.iconst 1, 1) := by decide +kernel
theorem dX12_stones_108 : decode cX12_stones 108 = .ok (.istore 4, 2) := by decide +kernel
theorem dX12_stones_110 : decode cX12_stones 110 = .ok (.iload 4, 2) := by decide +kernel
theorem dX12_stones_112 : decode cX12_stones 112 = .ok (.iload_n 2, 1) := by decide +kernel
theorem dX12_stones_113 : decode cX12_stones 113 = .ok (.if_icmp .gt 90, 3) := by decide +kernel
theorem dX12_stones_116 : decode cX12_stones 116 = .ok (.iload 4, 2) := by decide +kernel
theorem dX12_stones_118 : decode cX12_stones 118 = .ok (.iload_n 2, 1) := by decide +kernel
theorem dX12_stones_119 : decode cX12_stones 119 = .ok (.iconst (-1), 1) := by decide +kernel
theorem dX12_stones_120 : decode cX12_stones 120 = .ok (.ixor, 1) := by decide +kernel
theorem dX12_stones_121 : decode cX12_stones 121 = .ok (.iand, 1) := by decide +kernel
theorem dX12_stones_122 : decode cX12_stones 122 = .ok (.ifCond .ne 75, 3) := by decide +kernel
theorem dX12_stones_125 : decode cX12_stones 125 = .ok (.aload_n 0, 1) := by decide +kernel
theorem dX12_stones_126 : decode cX12_stones 126 = .ok (.iload 4, 2) := by decide +kernel
theorem dX12_stones_128 : decode cX12_stones 128 = .ok (.invokevirtual 293, 3) := by decide +kernel
theorem dX12_stones_131 : decode cX12_stones 131 = .ok (.iload_n 1, 1) := by decide +kernel
theorem dX12_stones_132 : decode cX12_stones 132 = .ok (.if_icmp .le 6, 3) := by decide +kernel
theorem dX12_stones_135 : decode cX12_stones 135 = .ok (.goto 62, 3) := by decide +kernel
theorem dX12_stones_138 : decode cX12_stones 138 = .ok (.iload 4, 2) := by decide +kernel
theorem dX12_stones_140 : decode cX12_stones 140 = .ok (.invokestatic 296, 3) := by decide +kernel
theorem dX12_stones_143 : decode cX12_stones 143 = .ok (.iload_n 3, 1) := by decide +kernel
theorem dX12_stones_144 : decode cX12_stones 144 = .ok (.invokestatic 296, 3) := by decide +kernel
theorem dX12_stones_147 : decode cX12_stones 147 = .ok (.isub, 1) := by decide +kernel
theorem dX12_stones_148 : decode cX12_stones 148 = .ok (.istore 5, 2) := by decide +kernel
theorem dX12_stones_150 : decode cX12_stones 150 = .ok (.aload_n 0, 1) := by decide +kernel
theorem dX12_stones_151 : decode cX12_stones 151 = .ok (.iload 4, 2) := by decide +kernel
theorem dX12_stones_153 : decode cX12_stones 153 = .ok (.invokevirtual 293, 3) := by decide +kernel
theorem dX12_stones_156 : decode cX12_stones 156 = .ok (.aload_n 0, 1) := by decide +kernel
theorem dX12_stones_157 : decode cX12_stones 157 = .ok (.iload_n 3, 1) := by decide +kernel
theorem dX12_stones_158 : decode cX12_stones 158 = .ok (.invokevirtual 293, 3) := by decide +kernel
theorem dX12_stones_161 : decode cX12_stones 161 = .ok (.isub, 1) := by decide +kernel
theorem dX12_stones_162 : decode cX12_stones 162 = .ok (.istore 6, 2) := by decide +kernel
theorem dX12_stones_164 : decode cX12_stones 164 = .ok (.iload 5, 2) := by decide +kernel
theorem dX12_stones_166 : decode cX12_stones 166 = .ok (.ifCond .gt 28, 3) := by decide +kernel
theorem dX12_stones_169 : decode cX12_stones 169 = .ok (.iload 5, 2) := by decide +kernel
theorem dX12_stones_171 : decode cX12_stones 171 = .ok (.ifCond .ne 26, 3) := by decide +kernel
theorem dX12_stones_174 : decode cX12_stones 174 = .ok (.iload 6, 2) := by decide +kernel
theorem dX12_stones_176 : decode cX12_stones 176 = .ok (.ifCond .lt 18, 3) := by decide +kernel
theorem dX12_stones_179 : decode cX12_stones 179 = .ok (.iload 6, 2) := by decide +kernel
theorem dX12_stones_181 : decode cX12_stones 181 = .ok (.ifCond .ne 16, 3) := by decide +kernel
theorem dX12_stones_184 : decode cX12_stones 184 = .ok (.aload_n 0, 1) := by decide +kernel
theorem dX12_stones_185 : decode cX12_stones 185 = .ok (.iload 4, 2) := by decide +kernel
theorem dX12_stones_187 : decode cX12_stones 187 = .ok (.iload_n 3, 1) := by decide +kernel
theorem dX12_stones_188 : decode cX12_stones 188 = .ok (.invokevirtual 301, 3) := by decide +kernel
theorem dX12_stones_191 : decode cX12_stones 191 = .ok (.ifCond .eq 6, 3) := by decide +kernel
theorem dX12_stones_194 : decode cX12_stones 194 = .ok (.iload 4, 2) := by decide +kernel
theorem dX12_stones_196 : decode cX12_stones 196 = .ok (.istore_n 3, 1) := by decide +kernel
theorem dX12_stones_197 : decode cX12_stones 197 = .ok (.iinc 4 1, 3) := by decide +kernel
theorem dX12_stones_200 : decode cX12_stones 200 = .ok (.goto (-90), 3) := by decide +kernel
theorem dX12_stones_203 : decode cX12_stones 203 = .ok (.aload_n 0, 1) := by decide +kernel
theorem dX12_stones_204 : decode cX12_stones 204 = .ok (.iconst 0, 1) := by decide +kernel
theorem dX12_stones_205 : decode cX12_stones 205 = .ok (.putfield 98, 3) := by decide +kernel
theorem dX12_stones_208 : decode cX12_stones 208 = .ok (.iconst 0, 1) := by decide +kernel
theorem dX12_stones_209 : decode cX12_stones 209 = .ok (.istore 4, 2) := by decide +kernel
theorem dX12_stones_211 : decode cX12_stones 211 = .ok (.iload 4, 2) := by decide +kernel
theorem dX12_stones_213 : decode cX12_stones 213 = .ok (.aload_n 0, 1) := by decide +kernel
theorem dX12_stones_214 : decode cX12_stones 214 = .ok (.getfield 101, 3) := by decide +kernel
theorem dX12_stones_217 : decode cX12_stones 217 = .ok (.if_icmp .ge 34, 3) := by decide +kernel
theorem dX12_stones_220 : decode cX12_stones 220 = .ok (.aload_n 0, 1) := by decide +kernel
theorem dX12_stones_221 : decode cX12_stones 221 = .ok (.iload_n 3, 1) := by decide +kernel
theorem dX12_stones_222 : decode cX12_stones 222 = .ok (.iload 4, 2) := by decide +kernel
theorem dX12_stones_224 : decode cX12_stones 224 = .ok (.invokestatic 158, 3) := by decide +kernel
theorem dX12_stones_227 : decode cX12_stones 227 = .ok (.ifCond .eq 14, 3) := by decide +kernel
theorem dX12_stones_230 : decode cX12_stones 230 = .ok (.aload_n 0, 1) := by decide +kernel
theorem dX12_stones_231 : decode cX12_stones 231 = .ok (.getfield 74, 3) := by decide +kernel
theorem dX12_stones_234 : decode cX12_stones 234 = .ok (.iload 4, 2) := by decide +kernel
theorem dX12_stones_236 : decode cX12_stones 236 = .ok (.iaload, 1) := by decide +kernel
theorem dX12_stones_237 : decode cX12_stones 237 = .ok (.i2l, 1) := by decide +kernel
theorem dX12_stones_238 : decode cX12_stones 238 = .ok (.goto 4, 3) := by decide +kernel
theorem dX12_stones_241 : decode cX12_stones 241 = .ok (.lconst 0, 1) := by decide +kernel
theorem dX12_stones_242 : decode cX12_stones 242 = .ok (.invokevirtual 267, 3) := by decide +kernel
theorem dX12_stones_245 : decode cX12_stones 245 = .ok (.iinc 4 1, 3) := by decide +kernel
theorem dX12_stones_248 : decode cX12_stones 248 = .ok (.goto (-37), 3) := by decide +kernel
theorem dX12_stones_251 : decode cX12_stones 251 = .ok (.iload_n 3, 1) := by decide +kernel
theorem dX12_stones_252 : decode cX12_stones 252 = .ok (.invokestatic 296, 3) := by decide +kernel
theorem dX12_stones_255 : decode cX12_stones 255 = .ok (.ireturn, 1) := by decide +kernel
theorem dX4_thoseWho_0 : decode cX4_thoseWho 0 = .ok (.iconst 0, 1) := by decide +kernel
theorem dX4_thoseWho_1 : decode cX4_thoseWho 1 = .ok (.istore_n 2, 1) := by decide +kernel
theorem dX4_thoseWho_2 : decode cX4_thoseWho 2 = .ok (.iconst 0, 1) := by decide +kernel
theorem dX4_thoseWho_3 : decode cX4_thoseWho 3 = .ok (.istore_n 3, 1) := by decide +kernel
theorem dX4_thoseWho_4 : decode cX4_thoseWho 4 = .ok (.iload_n 3, 1) := by decide +kernel
theorem dX4_thoseWho_5 : decode cX4_thoseWho 5 = .ok (.aload_n 0, 1) := by decide +kernel
theorem dX4_thoseWho_6 : decode cX4_thoseWho 6 = .ok (.getfield 31, 3) := by decide +kernel
theorem dX4_thoseWho_9 : decode cX4_thoseWho 9 = .ok (.getfield 54, 3) := by decide +kernel
theorem dX4_thoseWho_12 : decode cX4_thoseWho 12 = .ok (.if_icmp .ge 29, 3) := by decide +kernel
theorem dX4_thoseWho_15 : decode cX4_thoseWho 15 = .ok (.iload_n 2, 1) := by decide +kernel
theorem dX4_thoseWho_16 : decode cX4_thoseWho 16 = .ok (.aload_n 0, 1) := by decide +kernel
theorem dX4_thoseWho_17 : decode cX4_thoseWho 17 = .ok (.getfield 9, 3) := by decide +kernel
theorem dX4_thoseWho_20 : decode cX4_thoseWho 20 = .ok (.iload_n 3, 1) := by decide +kernel
theorem dX4_thoseWho_21 : decode cX4_thoseWho 21 = .ok (.iaload, 1) := by decide +kernel
theorem dX4_thoseWho_22 : decode cX4_thoseWho 22 = .ok (.iload_n 1, 1) := by decide +kernel
theorem dX4_thoseWho_23 : decode cX4_thoseWho 23 = .ok (.if_icmp .ne 9, 3) := by decide +kernel
theorem dX4_thoseWho_26 : decode cX4_thoseWho 26 = .ok (.iconst 1, 1) := by decide +kernel
theorem dX4_thoseWho_27 : decode cX4_thoseWho 27 = .ok (.iload_n 3, 1) := by decide +kernel
theorem dX4_thoseWho_28 : decode cX4_thoseWho 28 = .ok (.ishl, 1) := by decide +kernel
theorem dX4_thoseWho_29 : decode cX4_thoseWho 29 = .ok (.goto 4, 3) := by decide +kernel
theorem dX4_thoseWho_32 : decode cX4_thoseWho 32 = .ok (.iconst 0, 1) := by decide +kernel
theorem dX4_thoseWho_33 : decode cX4_thoseWho 33 = .ok (.ior, 1) := by decide +kernel
theorem dX4_thoseWho_34 : decode cX4_thoseWho 34 = .ok (.istore_n 2, 1) := by decide +kernel
theorem dX4_thoseWho_35 : decode cX4_thoseWho 35 = .ok (.iinc 3 1, 3) := by decide +kernel
theorem dX4_thoseWho_38 : decode cX4_thoseWho 38 = .ok (.goto (-34), 3) := by decide +kernel
theorem dX4_thoseWho_41 : decode cX4_thoseWho 41 = .ok (.iload_n 2, 1) := by decide +kernel
theorem dX4_thoseWho_42 : decode cX4_thoseWho 42 = .ok (.ireturn, 1) := by decide +kernel
theorem dX11_silent_0 : decode cX11_silent 0 = .ok (.iload_n 1, 1) := by decide +kernel
theorem dX11_silent_1 : decode cX11_silent 1 = .ok (.ifCond .lt 9, 3) := by decide +kernel
theorem dX11_silent_4 : decode cX11_silent 4 = .ok (.iload_n 1, 1) := by decide +kernel
theorem dX11_silent_5 : decode cX11_silent 5 = .ok (.bipush 60, 2) := by decide +kernel
theorem dX11_silent_7 : decode cX11_silent 7 = .ok (.if_icmp .le 5, 3) := by decide +kernel
theorem dX11_silent_10 : decode cX11_silent 10 = .ok (.iconst (-1), 1) := by decide +kernel
theorem dX11_silent_11 : decode cX11_silent 11 = .ok (.ireturn, 1) := by decide +kernel
theorem dX11_silent_12 : decode cX11_silent 12 = .ok (.aload_n 0, 1) := by decide +kernel
theorem dX11_silent_13 : decode cX11_silent 13 = .ok (.getfield 69, 3) := by decide +kernel
theorem dX11_silent_16 : decode cX11_silent 16 = .ok (.aload_n 0, 1) := by decide +kernel
theorem dX11_silent_17 : decode cX11_silent 17 = .ok (.getfield 65, 3) := by decide +kernel
theorem dX11_silent_20 : decode cX11_silent 20 = .ok (.invokevirtual 297, 3) := by decide +kernel
theorem dX11_silent_23 : decode cX11_silent 23 = .ok (.aload_n 0, 1) := by decide +kernel
theorem dX11_silent_24 : decode cX11_silent 24 = .ok (.getfield 69, 3) := by decide +kernel
theorem dX11_silent_27 : decode cX11_silent 27 = .ok (.iload_n 1, 1) := by decide +kernel
theorem dX11_silent_28 : decode cX11_silent 28 = .ok (.aload_n 0, 1) := by decide +kernel
theorem dX11_silent_29 : decode cX11_silent 29 = .ok (.getfield 100, 3) := by decide +kernel
theorem dX11_silent_32 : decode cX11_silent 32 = .ok (.invokevirtual 232, 3) := by decide +kernel
theorem dX11_silent_35 : decode cX11_silent 35 = .ok (.istore_n 2, 1) := by decide +kernel
theorem dX11_silent_36 : decode cX11_silent 36 = .ok (.aload_n 0, 1) := by decide +kernel
theorem dX11_silent_37 : decode cX11_silent 37 = .ok (.getfield 19, 3) := by decide +kernel
theorem dX11_silent_40 : decode cX11_silent 40 = .ok (.iload_n 2, 1) := by decide +kernel
theorem dX11_silent_41 : decode cX11_silent 41 = .ok (.invokestatic 238, 3) := by decide +kernel
theorem dX11_silent_44 : decode cX11_silent 44 = .ok (.invokestatic 292, 3) := by decide +kernel
theorem dX11_silent_47 : decode cX11_silent 47 = .ok (.i2l, 1) := by decide +kernel
theorem dX11_silent_48 : decode cX11_silent 48 = .ok (.iload_n 2, 1) := by decide +kernel
theorem dX11_silent_49 : decode cX11_silent 49 = .ok (.invokestatic 241, 3) := by decide +kernel
theorem dX11_silent_52 : decode cX11_silent 52 = .ok (.invokestatic 292, 3) := by decide +kernel
theorem dX11_silent_55 : decode cX11_silent 55 = .ok (.i2l, 1) := by decide +kernel
theorem dX11_silent_56 : decode cX11_silent 56 = .ok (.invokevirtual 244, 3) := by decide +kernel
theorem dX11_silent_59 : decode cX11_silent 59 = .ok (.aload_n 0, 1) := by decide +kernel
theorem dX11_silent_60 : decode cX11_silent 60 = .ok (.getfield 69, 3) := by decide +kernel
theorem dX11_silent_63 : decode cX11_silent 63 = .ok (.iconst 0, 1) := by decide +kernel
theorem dX11_silent_64 : decode cX11_silent 64 = .ok (.invokevirtual 300, 3) := by decide +kernel
theorem dX11_silent_67 : decode cX11_silent 67 = .ok (.ireturn, 1) := by decide +kernel
theorem dX12_silent_0 : decode cX12_silent 0 = .ok (.aload_n 0, 1) := by decide +kernel
theorem dX12_silent_1 : decode cX12_silent 1 = .ok (.iconst 0, 1) := by decide +kernel
theorem dX12_silent_2 : decode cX12_silent 2 = .ok (.putfield 95, 3) := by decide +kernel
theorem dX12_silent_5 : decode cX12_silent 5 = .ok (.iload_n 1, 1) := by decide +kernel
theorem dX12_silent_6 : decode cX12_silent 6 = .ok (.iconst 0, 1) := by decide +kernel
theorem dX12_silent_7 : decode cX12_silent 7 = .ok (.bipush 60, 2) := by decide +kernel
theorem dX12_silent_9 : decode cX12_silent 9 = .ok (.invokestatic 104, 3) := by decide +kernel
theorem dX12_silent_12 : decode cX12_silent 12 = .ok (.ifCond .ne 5, 3) := by decide +kernel
theorem dX12_silent_15 : decode cX12_silent 15 = .ok (.iconst (-1), 1) := by decide +kernel
theorem dX12_silent_16 : decode cX12_silent 16 = .ok (.ireturn, 1) := by decide +kernel
theorem dX12_silent_17 : decode cX12_silent 17 = .ok (.aload_n 0, 1) := by decide +kernel
theorem dX12_silent_18 : decode cX12_silent 18 = .ok (.getfield 9, 3) := by decide +kernel
theorem dX12_silent_21 : decode cX12_silent 21 = .ok (.aload_n 0, 1) := by decide +kernel
theorem dX12_silent_22 : decode cX12_silent 22 = .ok (.getfield 68, 3) := by decide +kernel
theorem dX12_silent_25 : decode cX12_silent 25 = .ok (.iconst 0, 1) := by decide +kernel
theorem dX12_silent_26 : decode cX12_silent 26 = .ok (.invokestatic 242, 3) := by decide +kernel
theorem dX12_silent_29 : decode cX12_silent 29 = .ok (.iconst 0, 1) := by decide +kernel
theorem dX12_silent_30 : decode cX12_silent 30 = .ok (.istore_n 2, 1) := by decide +kernel
theorem dX12_silent_31 : decode cX12_silent 31 = .ok (.iload_n 2, 1) := by decide +kernel
theorem dX12_silent_32 : decode cX12_silent 32 = .ok (.iload_n 1, 1) := by decide +kernel
theorem dX12_silent_33 : decode cX12_silent 33 = .ok (.if_icmp .ge 17, 3) := by decide +kernel
theorem dX12_silent_36 : decode cX12_silent 36 = .ok (.aload_n 0, 1) := by decide +kernel
theorem dX12_silent_37 : decode cX12_silent 37 = .ok (.aload_n 0, 1) := by decide +kernel
theorem dX12_silent_38 : decode cX12_silent 38 = .ok (.getfield 68, 3) := by decide +kernel
theorem dX12_silent_41 : decode cX12_silent 41 = .ok (.invokevirtual 274, 3) := by decide +kernel
theorem dX12_silent_44 : decode cX12_silent 44 = .ok (.iinc 2 1, 3) := by decide +kernel
theorem dX12_silent_47 : decode cX12_silent 47 = .ok (.goto (-16), 3) := by decide +kernel
theorem dX12_silent_50 : decode cX12_silent 50 = .ok (.aload_n 0, 1) := by decide +kernel
theorem dX12_silent_51 : decode cX12_silent 51 = .ok (.iconst 0, 1) := by decide +kernel
theorem dX12_silent_52 : decode cX12_silent 52 = .ok (.putfield 98, 3) := by decide +kernel
theorem dX12_silent_55 : decode cX12_silent 55 = .ok (.aload_n 0, 1) := by decide +kernel
theorem dX12_silent_56 : decode cX12_silent 56 = .ok (.aload_n 0, 1) := by decide +kernel
theorem dX12_silent_57 : decode cX12_silent 57 = .ok (.aload_n 0, 1) := by decide +kernel
theorem dX12_silent_58 : decode cX12_silent 58 = .ok (.getfield 68, 3) := by decide +kernel
theorem dX12_silent_61 : decode cX12_silent 61 = .ok (.iconst 2, 1) := by decide +kernel
theorem dX12_silent_62 : decode cX12_silent 62 = .ok (.invokevirtual 271, 3) := by decide +kernel
theorem dX12_silent_65 : decode cX12_silent 65 = .ok (.aload_n 0, 1) := by decide +kernel
theorem dX12_silent_66 : decode cX12_silent 66 = .ok (.aload_n 0, 1) := by decide +kernel
theorem dX12_silent_67 : decode cX12_silent 67 = .ok (.getfield 9, 3) := by decide +kernel
theorem dX12_silent_70 : decode cX12_silent 70 = .ok (.iconst 2, 1) := by decide +kernel
