theorem dX12_power_8 : decode cX12_power 8 = .ok (.if_icmp .ge 13, 3) := by decide +kernel
theorem dX12_power_11 : decode cX12_power 11 = .ok (.lload_n 3, 1) := by decide +kernel
theorem dX12_power_12 : decode cX12_power 12 = .ok (.lload_n 0, 1) := by decide +kernel
theorem dX12_power_13 : decode cX12_power 13 = .ok (.lmul, 1) := by decide +kernel
theorem dX12_power_14 : decode cX12_power 14 = .ok (.lstore_n 3, 1) := by decide +kernel
theorem dX12_power_15 : decode cX12_power 15 = .ok (.iinc 5 1, 3) := by decide +kernel
theorem dX12_power_18 : decode cX12_power 18 = .ok (.goto (-13), 3) := by decide +kernel
theorem dX12_power_21 : decode cX12_power 21 = .ok (.lload_n 3, 1) := by decide +kernel
theorem dX12_power_22 : decode cX12_power 22 = .ok (.lreturn, 1) := by decide +kernel
theorem dX12_dumbPart_0 : decode cX12_dumbPart 0 = .ok (.iload_n 0, 1) := by decide +kernel
theorem dX12_dumbPart_1 : decode cX12_dumbPart 1 = .ok (.i2l, 1) := by decide +kernel
theorem dX12_dumbPart_2 : decode cX12_dumbPart 2 = .ok (.ldc2_w 352, 3) := by decide +kernel
theorem dX12_dumbPart_5 : decode cX12_dumbPart 5 = .ok (.iload_n 1, 1) := by decide +kernel
theorem dX12_dumbPart_6 : decode cX12_dumbPart 6 = .ok (.invokestatic 354, 3) := by decide +kernel
theorem dX12_dumbPart_9 : decode cX12_dumbPart 9 = .ok (.lmul, 1) := by decide +kernel
theorem dX12_dumbPart_10 : decode cX12_dumbPart 10 = .ok (.lreturn, 1) := by decide +kernel
theorem dX12_wholePart_0 : decode cX12_wholePart 0 = .ok (.iload_n 0, 1) := by decide +kernel
theorem dX12_wholePart_1 : decode cX12_wholePart 1 = .ok (.iload_n 2, 1) := by decide +kernel
theorem dX12_wholePart_2 : decode cX12_wholePart 2 = .ok (.invokestatic 358, 3) := by decide +kernel
theorem dX12_wholePart_5 : decode cX12_wholePart 5 = .ok (.bipush 10, 2) := by decide +kernel
theorem dX12_wholePart_7 : decode cX12_wholePart 7 = .ok (.iload_n 0, 1) := by decide +kernel
theorem dX12_wholePart_8 : decode cX12_wholePart 8 = .ok (.isub, 1) := by decide +kernel
theorem dX12_wholePart_9 : decode cX12_wholePart 9 = .ok (.i2l, 1) := by decide +kernel
theorem dX12_wholePart_10 : decode cX12_wholePart 10 = .ok (.ldc2_w 352, 3) := by decide +kernel
theorem dX12_wholePart_13 : decode cX12_wholePart 13 = .ok (.iload_n 1, 1) := by decide +kernel
theorem dX12_wholePart_14 : decode cX12_wholePart 14 = .ok (.i2l, 1) := by decide +kernel
theorem dX12_wholePart_15 : decode cX12_wholePart 15 = .ok (.lsub, 1) := by decide +kernel
theorem dX12_wholePart_16 : decode cX12_wholePart 16 = .ok (.iload_n 2, 1) := by decide +kernel
theorem dX12_wholePart_17 : decode cX12_wholePart 17 = .ok (.invokestatic 354, 3) := by decide +kernel
theorem dX12_wholePart_20 : decode cX12_wholePart 20 = .ok (.lmul, 1) := by decide +kernel
theorem dX12_wholePart_21 : decode cX12_wholePart 21 = .ok (.ladd, 1) := by decide +kernel
theorem dX12_wholePart_22 : decode cX12_wholePart 22 = .ok (.lreturn, 1) := by decide +kernel
theorem dX12_dumb_0 : decode cX12_dumb 0 = .ok (.aload_n 0, 1) := by decide +kernel
theorem dX12_dumb_1 : decode cX12_dumb 1 = .ok (.iconst 0, 1) := by decide +kernel
theorem dX12_dumb_2 : decode cX12_dumb 2 = .ok (.putfield 95, 3) := by decide +kernel
theorem dX12_dumb_5 : decode cX12_dumb 5 = .ok (.iload_n 1, 1) := by decide +kernel
theorem dX12_dumb_6 : decode cX12_dumb 6 = .ok (.iconst 0, 1) := by decide +kernel
theorem dX12_dumb_7 : decode cX12_dumb 7 = .ok (.bipush 10, 2) := by decide +kernel
theorem dX12_dumb_9 : decode cX12_dumb 9 = .ok (.invokestatic 104, 3) := by decide +kernel
theorem dX12_dumb_12 : decode cX12_dumb 12 = .ok (.ifCond .eq 23, 3) := by decide +kernel
theorem dX12_dumb_15 : decode cX12_dumb 15 = .ok (.iload_n 2, 1) := by decide +kernel
theorem dX12_dumb_16 : decode cX12_dumb 16 = .ok (.iconst 0, 1) := by decide +kernel
theorem dX12_dumb_17 : decode cX12_dumb 17 = .ok (.bipush 10, 2) := by decide +kernel
theorem dX12_dumb_19 : decode cX12_dumb 19 = .ok (.invokestatic 104, 3) := by decide +kernel
theorem dX12_dumb_22 : decode cX12_dumb 22 = .ok (.ifCond .eq 13, 3) := by decide +kernel
theorem dX12_dumb_25 : decode cX12_dumb 25 = .ok (.iload_n 3, 1) := by decide +kernel
theorem dX12_dumb_26 : decode cX12_dumb 26 = .ok (.iconst 0, 1) := by decide +kernel
theorem dX12_dumb_27 : decode cX12_dumb 27 = .ok (.bipush 12, 2) := by decide +kernel
theorem dX12_dumb_29 : decode cX12_dumb 29 = .ok (.invokestatic 104, 3) := by decide +kernel
theorem dX12_dumb_32 : decode cX12_dumb 32 = .ok (.ifCond .ne 5, 3) := by decide +kernel
theorem dX12_dumb_35 : decode cX12_dumb 35 = .ok (.iconst (-1), 1) := by decide +kernel
theorem dX12_dumb_36 : decode cX12_dumb 36 = .ok (.ireturn, 1) := by decide +kernel
theorem dX12_dumb_37 : decode cX12_dumb 37 = .ok (.iload_n 1, 1) := by decide +kernel
theorem dX12_dumb_38 : decode cX12_dumb 38 = .ok (.iload_n 3, 1) := by decide +kernel
theorem dX12_dumb_39 : decode cX12_dumb 39 = .ok (.invokestatic 358, 3) := by decide +kernel
theorem dX12_dumb_42 : decode cX12_dumb 42 = .ok (.lstore 4, 2) := by decide +kernel
theorem dX12_dumb_44 : decode cX12_dumb 44 = .ok (.iload_n 1, 1) := by decide +kernel
theorem dX12_dumb_45 : decode cX12_dumb 45 = .ok (.iload_n 2, 1) := by decide +kernel
theorem dX12_dumb_46 : decode cX12_dumb 46 = .ok (.iload_n 3, 1) := by decide +kernel
theorem dX12_dumb_47 : decode cX12_dumb 47 = .ok (.invokestatic 362, 3) := by decide +kernel
theorem dX12_dumb_50 : decode cX12_dumb 50 = .ok (.lstore 6, 2) := by decide +kernel
theorem dX12_dumb_52 : decode cX12_dumb 52 = .ok (.lload 6, 2) := by decide +kernel
theorem dX12_dumb_54 : decode cX12_dumb 54 = .ok (.lconst 0, 1) := by decide +kernel
theorem dX12_dumb_55 : decode cX12_dumb 55 = .ok (.lcmp, 1) := by decide +kernel
theorem dX12_dumb_56 : decode cX12_dumb 56 = .ok (.ifCond .ne 6, 3) := by decide +kernel
theorem dX12_dumb_59 : decode cX12_dumb 59 = .ok (.bipush (-2), 2) := by decide +kernel
theorem dX12_dumb_61 : decode cX12_dumb 61 = .ok (.ireturn, 1) := by decide +kernel
theorem dX12_dumb_62 : decode cX12_dumb 62 = .ok (.lload 4, 2) := by decide +kernel
theorem dX12_dumb_64 : decode cX12_dumb 64 = .ok (.lload 6, 2) := by decide +kernel
theorem dX12_dumb_66 : decode cX12_dumb 66 = .ok (.invokestatic 348, 3) := by decide +kernel
theorem dX12_dumb_69 : decode cX12_dumb 69 = .ok (.lstore 8, 2) := by decide +kernel
theorem dX12_dumb_71 : decode cX12_dumb 71 = .ok (.aload_n 0, 1) := by decide +kernel
theorem dX12_dumb_72 : decode cX12_dumb 72 = .ok (.iconst 0, 1) := by decide +kernel
theorem dX12_dumb_73 : decode cX12_dumb 73 = .ok (.putfield 98, 3) := by decide +kernel
theorem dX12_dumb_76 : decode cX12_dumb 76 = .ok (.aload_n 0, 1) := by decide +kernel
theorem dX12_dumb_77 : decode cX12_dumb 77 = .ok (.lload 4, 2) := by decide +kernel
theorem dX12_dumb_79 : decode cX12_dumb 79 = .ok (.lload 8, 2) := by decide +kernel
theorem dX12_dumb_81 : decode cX12_dumb 81 = .ok (.ldiv, 1) := by decide +kernel
theorem dX12_dumb_82 : decode cX12_dumb 82 = .ok (.invokevirtual 267, 3) := by decide +kernel
theorem dX12_dumb_85 : decode cX12_dumb 85 = .ok (.aload_n 0, 1) := by decide +kernel
theorem dX12_dumb_86 : decode cX12_dumb 86 = .ok (.lload 6, 2) := by decide +kernel
theorem dX12_dumb_88 : decode cX12_dumb 88 = .ok (.lload 8, 2) := by decide +kernel
theorem dX12_dumb_90 : decode cX12_dumb 90 = .ok (.ldiv, 1) := by decide +kernel
theorem dX12_dumb_91 : decode cX12_dumb 91 = .ok (.invokevirtual 267, 3) := by decide +kernel
theorem dX12_dumb_94 : decode cX12_dumb 94 = .ok (.iconst 0, 1) := by decide +kernel
theorem dX12_dumb_95 : decode cX12_dumb 95 = .ok (.ireturn, 1) := by decide +kernel
theorem dX11_sure_0 : decode cX11_sure 0 = .ok (.iload_n 1, 1) := by decide +kernel
theorem dX11_sure_1 : decode cX11_sure 1 = .ok (.invokestatic 354, 3) := by decide +kernel
theorem dX11_sure_4 : decode cX11_sure 4 = .ok (.ifCond .eq 20, 3) := by decide +kernel
theorem dX11_sure_7 : decode cX11_sure 7 = .ok (.iload_n 2, 1) := by decide +kernel
theorem dX11_sure_8 : decode cX11_sure 8 = .ok (.invokestatic 354, 3) := by decide +kernel
theorem dX11_sure_11 : decode cX11_sure 11 = .ok (.ifCond .eq 13, 3) := by decide +kernel
theorem dX11_sure_14 : decode cX11_sure 14 = .ok (.iload_n 3, 1) := by decide +kernel
theorem dX11_sure_15 : decode cX11_sure 15 = .ok (.ifCond .lt 9, 3) := by decide +kernel
theorem dX11_sure_18 : decode cX11_sure 18 = .ok (.iload_n 3, 1) := by decide +kernel
theorem dX11_sure_19 : decode cX11_sure 19 = .ok (.bipush 100, 2) := by decide +kernel
theorem dX11_sure_21 : decode cX11_sure 21 = .ok (.if_icmp .le 5, 3) := by decide +kernel
theorem dX11_sure_24 : decode cX11_sure 24 = .ok (.iconst (-1), 1) := by decide +kernel
theorem dX11_sure_25 : decode cX11_sure 25 = .ok (.ireturn, 1) := by decide +kernel
theorem dX11_sure_26 : decode cX11_sure 26 = .ok (.iconst 0, 1) := by decide +kernel
theorem dX11_sure_27 : decode cX11_sure 27 = .ok (.istore 4, 2) := by decide +kernel
theorem dX11_sure_29 : decode cX11_sure 29 = .ok (.iload 4, 2) := by decide +kernel
theorem dX11_sure_31 : decode cX11_sure 31 = .ok (.bipush 12, 2) := by decide +kernel
theorem dX11_sure_33 : decode cX11_sure 33 = .ok (.if_icmp .gt 47, 3) := by decide +kernel
theorem dX11_sure_36 : decode cX11_sure 36 = .ok (.iload_n 1, 1) := by decide +kernel
theorem dX11_sure_37 : decode cX11_sure 37 = .ok (.iload_n 2, 1) := by decide +kernel
theorem dX11_sure_38 : decode cX11_sure 38 = .ok (.iload 4, 2) := by decide +kernel
theorem dX11_sure_40 : decode cX11_sure 40 = .ok (.invokestatic 361, 3) := by decide +kernel
theorem dX11_sure_43 : decode cX11_sure 43 = .ok (.lstore 5, 2) := by decide +kernel
theorem dX11_sure_45 : decode cX11_sure 45 = .ok (.lload 5, 2) := by decide +kernel
theorem dX11_sure_47 : decode cX11_sure 47 = .ok (.lconst 0, 1) := by decide +kernel
theorem dX11_sure_48 : decode cX11_sure 48 = .ok (.lcmp, 1) := by decide +kernel
theorem dX11_sure_49 : decode cX11_sure 49 = .ok (.ifCond .le 25, 3) := by decide +kernel
theorem dX11_sure_52 : decode cX11_sure 52 = .ok (.ldc2_w 369, 3) := by decide +kernel
theorem dX11_sure_55 : decode cX11_sure 55 = .ok (.iload_n 1, 1) := by decide +kernel
theorem dX11_sure_56 : decode cX11_sure 56 = .ok (.iload 4, 2) := by decide +kernel
theorem dX11_sure_58 : decode cX11_sure 58 = .ok (.invokestatic 357, 3) := by decide +kernel
theorem dX11_sure_61 : decode cX11_sure 61 = .ok (.lmul, 1) := by decide +kernel
theorem dX11_sure_62 : decode cX11_sure 62 = .ok (.iload_n 3, 1) := by decide +kernel
theorem dX11_sure_63 : decode cX11_sure 63 = .ok (.i2l, 1) := by decide +kernel
theorem dX11_sure_64 : decode cX11_sure 64 = .ok (.lload 5, 2) := by decide +kernel
theorem dX11_sure_66 : decode cX11_sure 66 = .ok (.lmul, 1) := by decide +kernel
theorem dX11_sure_67 : decode cX11_sure 67 = .ok (.lcmp, 1) := by decide +kernel
theorem dX11_sure_68 : decode cX11_sure 68 = .ok (.ifCond .lt 6, 3) := by decide +kernel
theorem dX11_sure_71 : decode cX11_sure 71 = .ok (.iload 4, 2) := by decide +kernel
theorem dX11_sure_73 : decode cX11_sure 73 = .ok (.ireturn, 1) := by decide +kernel
theorem dX11_sure_74 : decode cX11_sure 74 = .ok (.iinc 4 1, 3) := by decide +kernel
theorem dX11_sure_77 : decode cX11_sure 77 = .ok (.goto (-48), 3) := by decide +kernel
theorem dX11_sure_80 : decode cX11_sure 80 = .ok (.bipush (-2), 2) := by decide +kernel
theorem dX11_sure_82 : decode cX11_sure 82 = .ok (.ireturn, 1) := by decide +kernel
theorem dX12_sure_0 : decode cX12_sure 0 = .ok (.aload_n 0, 1) := by decide +kernel
theorem dX12_sure_1 : decode cX12_sure 1 = .ok (.iconst 0, 1) := by decide +kernel
theorem dX12_sure_2 : decode cX12_sure 2 = .ok (.putfield 95, 3) := by decide +kernel
theorem dX12_sure_5 : decode cX12_sure 5 = .ok (.iload_n 1, 1) := by decide +kernel
theorem dX12_sure_6 : decode cX12_sure 6 = .ok (.iconst 0, 1) := by decide +kernel
theorem dX12_sure_7 : decode cX12_sure 7 = .ok (.bipush 10, 2) := by decide +kernel
theorem dX12_sure_9 : decode cX12_sure 9 = .ok (.invokestatic 104, 3) := by decide +kernel
theorem dX12_sure_12 : decode cX12_sure 12 = .ok (.ifCond .eq 23, 3) := by decide +kernel
theorem dX12_sure_15 : decode cX12_sure 15 = .ok (.iload_n 2, 1) := by decide +kernel
theorem dX12_sure_16 : decode cX12_sure 16 = .ok (.iconst 0, 1) := by decide +kernel
theorem dX12_sure_17 : decode cX12_sure 17 = .ok (.bipush 10, 2) := by decide +kernel
theorem dX12_sure_19 : decode cX12_sure 19 = .ok (.invokestatic 104, 3) := by decide +kernel
theorem dX12_sure_22 : decode cX12_sure 22 = .ok (.ifCond .eq 13, 3) := by decide +kernel
theorem dX12_sure_25 : decode cX12_sure 25 = .ok (.iload_n 3, 1) := by decide +kernel
theorem dX12_sure_26 : decode cX12_sure 26 = .ok (.iconst 0, 1) := by decide +kernel
theorem dX12_sure_27 : decode cX12_sure 27 = .ok (.bipush 100, 2) := by decide +kernel
theorem dX12_sure_29 : decode cX12_sure 29 = .ok (.invokestatic 104, 3) := by decide +kernel
theorem dX12_sure_32 : decode cX12_sure 32 = .ok (.ifCond .ne 5, 3) := by decide +kernel
theorem dX12_sure_35 : decode cX12_sure 35 = .ok (.iconst (-1), 1) := by decide +kernel
theorem dX12_sure_36 : decode cX12_sure 36 = .ok (.ireturn, 1) := by decide +kernel
theorem dX12_sure_37 : decode cX12_sure 37 = .ok (.iconst 0, 1) := by decide +kernel
theorem dX12_sure_38 : decode cX12_sure 38 = .ok (.istore 4, 2) := by decide +kernel
theorem dX12_sure_40 : decode cX12_sure 40 = .ok (.iload 4, 2) := by decide +kernel
theorem dX12_sure_42 : decode cX12_sure 42 = .ok (.bipush 12, 2) := by decide +kernel
theorem dX12_sure_44 : decode cX12_sure 44 = .ok (.if_icmp .gt 47, 3) := by decide +kernel
theorem dX12_sure_47 : decode cX12_sure 47 = .ok (.iload_n 1, 1) := by decide +kernel
theorem dX12_sure_48 : decode cX12_sure 48 = .ok (.iload_n 2, 1) := by decide +kernel
theorem dX12_sure_49 : decode cX12_sure 49 = .ok (.iload 4, 2) := by decide +kernel
theorem dX12_sure_51 : decode cX12_sure 51 = .ok (.invokestatic 362, 3) := by decide +kernel
theorem dX12_sure_54 : decode cX12_sure 54 = .ok (.lstore 5, 2) := by decide +kernel
theorem dX12_sure_56 : decode cX12_sure 56 = .ok (.lload 5, 2) := by decide +kernel
theorem dX12_sure_58 : decode cX12_sure 58 = .ok (.lconst 0, 1) := by decide +kernel
theorem dX12_sure_59 : decode cX12_sure 59 = .ok (.lcmp, 1) := by decide +kernel
theorem dX12_sure_60 : decode cX12_sure 60 = .ok (.ifCond .le 25, 3) := by decide +kernel
theorem dX12_sure_63 : decode cX12_sure 63 = .ok (.ldc2_w 366, 3) := by decide +kernel
theorem dX12_sure_66 : decode cX12_sure 66 = .ok (.iload_n 1, 1) := by decide +kernel
theorem dX12_sure_67 : decode cX12_sure 67 = .ok (.iload 4, 2) := by decide +kernel
theorem dX12_sure_69 : decode cX12_sure 69 = .ok (.invokestatic 358, 3) := by decide +kernel
theorem dX12_sure_72 : decode cX12_sure 72 = .ok (.lmul, 1) := by decide +kernel
theorem dX12_sure_73 : decode cX12_sure 73 = .ok (.iload_n 3, 1) := by decide +kernel
theorem dX12_sure_74 : decode cX12_sure 74 = .ok (.i2l, 1) := by decide +kernel
theorem dX12_sure_75 : decode cX12_sure 75 = .ok (.lload 5, 2) := by decide +kernel
theorem dX12_sure_77 : decode cX12_sure 77 = .ok (.lmul, 1) := by decide +kernel
theorem dX12_sure_78 : decode cX12_sure 78 = .ok (.lcmp, 1) := by decide +kernel
theorem dX12_sure_79 : decode cX12_sure 79 = .ok (.ifCond .lt 6, 3) := by decide +kernel
theorem dX12_sure_82 : decode cX12_sure 82 = .ok (.iload 4, 2) := by decide +kernel
theorem dX12_sure_84 : decode cX12_sure 84 = .ok (.ireturn, 1) := by decide +kernel
theorem dX12_sure_85 : decode cX12_sure 85 = .ok (.iinc 4 1, 3) := by decide +kernel
theorem dX12_sure_88 : decode cX12_sure 88 = .ok (.goto (-48), 3) := by decide +kernel
theorem dX12_sure_91 : decode cX12_sure 91 = .ok (.bipush (-2), 2) := by decide +kernel
theorem dX12_sure_93 : decode cX12_sure 93 = .ok (.ireturn, 1) := by decide +kernel
theorem dX11_isSuchPart_0 : decode cX11_isSuchPart 0 = .ok (.iload_n 1, 1) := by decide +kernel
theorem dX11_isSuchPart_1 : decode cX11_isSuchPart 1 = .ok (.iload_n 2, 1) := by decide +kernel
theorem dX11_isSuchPart_2 : decode cX11_isSuchPart 2 = .ok (.iconst (-1), 1) := by decide +kernel
theorem dX11_isSuchPart_3 : decode cX11_isSuchPart 3 = .ok (.ixor, 1) := by decide +kernel
theorem dX11_isSuchPart_4 : decode cX11_isSuchPart 4 = .ok (.iand, 1) := by decide +kernel
theorem dX11_isSuchPart_5 : decode cX11_isSuchPart 5 = .ok (.ifCond .ne 19, 3) := by decide +kernel
theorem dX11_isSuchPart_8 : decode cX11_isSuchPart 8 = .ok (.aload_n 0, 1) := by decide +kernel
theorem dX11_isSuchPart_9 : decode cX11_isSuchPart 9 = .ok (.getfield 56, 3) := by decide +kernel
theorem dX11_isSuchPart_12 : decode cX11_isSuchPart 12 = .ok (.iload_n 1, 1) := by decide +kernel
theorem dX11_isSuchPart_13 : decode cX11_isSuchPart 13 = .ok (.invokevirtual 188, 3) := by decide +kernel
theorem dX11_isSuchPart_16 : decode cX11_isSuchPart 16 = .ok (.iload_n 3, 1) := by decide +kernel
theorem dX11_isSuchPart_17 : decode cX11_isSuchPart 17 = .ok (.if_icmp .ne 7, 3) := by decide +kernel
theorem dX11_isSuchPart_20 : decode cX11_isSuchPart 20 = .ok (.iconst 1, 1) := by decide +kernel
theorem dX11_isSuchPart_21 : decode cX11_isSuchPart 21 = .ok (.goto 4, 3) := by decide +kernel
theorem dX11_isSuchPart_24 : decode cX11_isSuchPart 24 = .ok (.iconst 0, 1) := by decide +kernel
theorem dX11_isSuchPart_25 : decode cX11_isSuchPart 25 = .ok (.ireturn, 1) := by decide +kernel
theorem dX11_house_0 : decode cX11_house 0 = .ok (.aload_n 0, 1) := by decide +kernel
theorem dX11_house_1 : decode cX11_house 1 = .ok (.iload_n 1, 1) := by decide +kernel
theorem dX11_house_2 : decode cX11_house 2 = .ok (.invokevirtual 147, 3) := by decide +kernel
theorem dX11_house_5 : decode cX11_house 5 = .ok (.ifCond .eq 14, 3) := by decide +kernel
theorem dX11_house_8 : decode cX11_house 8 = .ok (.iload_n 2, 1) := by decide +kernel
theorem dX11_house_9 : decode cX11_house 9 = .ok (.ifCond .lt 10, 3) := by decide +kernel
theorem dX11_house_12 : decode cX11_house 12 = .ok (.iload_n 2, 1) := by decide +kernel
theorem dX11_house_13 : decode cX11_house 13 = .ok (.sipush 999, 3) := by decide +kernel
theorem dX11_house_16 : decode cX11_house 16 = .ok (.if_icmp .le 5, 3) := by decide +kernel
theorem dX11_house_19 : decode cX11_house 19 = .ok (.iconst (-1), 1) := by decide +kernel
theorem dX11_house_20 : decode cX11_house 20 = .ok (.ireturn, 1) := by decide +kernel
theorem dX11_house_21 : decode cX11_house 21 = .ok (.aload_n 0, 1) := by decide +kernel
theorem dX11_house_22 : decode cX11_house 22 = .ok (.getfield 26, 3) := by decide +kernel
theorem dX11_house_25 : decode cX11_house 25 = .ok (.getfield 169, 3) := by decide +kernel
theorem dX11_house_28 : decode cX11_house 28 = .ok (.iload_n 1, 1) := by decide +kernel
theorem dX11_house_29 : decode cX11_house 29 = .ok (.iaload, 1) := by decide +kernel
theorem dX11_house_30 : decode cX11_house 30 = .ok (.istore_n 3, 1) := by decide +kernel
theorem dX11_house_31 : decode cX11_house 31 = .ok (.iconst 0, 1) := by decide +kernel
theorem dX11_house_32 : decode cX11_house 32 = .ok (.istore 4, 2) := by decide +kernel
theorem dX11_house_34 : decode cX11_house 34 = .ok (.iconst (-1), 1) := by decide +kernel
theorem dX11_house_35 : decode cX11_house 35 = .ok (.istore 5, 2) := by decide +kernel
theorem dX11_house_37 : decode cX11_house 37 = .ok (.iload_n 3, 1) := by decide +kernel
theorem dX11_house_38 : decode cX11_house 38 = .ok (.istore 6, 2) := by decide +kernel
theorem dX11_house_40 : decode cX11_house 40 = .ok (.iconst 0, 1) := by decide +kernel
theorem dX11_house_41 : decode cX11_house 41 = .ok (.istore 7, 2) := by decide +kernel
theorem dX11_house_43 : decode cX11_house 43 = .ok (.iload 7, 2) := by decide +kernel
theorem dX11_house_45 : decode cX11_house 45 = .ok (.sipush 256, 3) := by decide +kernel
theorem dX11_house_48 : decode cX11_house 48 = .ok (.if_icmp .ge 44, 3) := by decide +kernel
theorem dX11_house_51 : decode cX11_house 51 = .ok (.aload_n 0, 1) := by decide +kernel
theorem dX11_house_52 : decode cX11_house 52 = .ok (.iload 7, 2) := by decide +kernel
theorem dX11_house_54 : decode cX11_house 54 = .ok (.iload_n 3, 1) := by decide +kernel
theorem dX11_house_55 : decode cX11_house 55 = .ok (.iload_n 2, 1) := by decide +kernel
theorem dX11_house_56 : decode cX11_house 56 = .ok (.invokevirtual 371, 3) := by decide +kernel
theorem dX11_house_59 : decode cX11_house 59 = .ok (.ifCond .eq 27, 3) := by decide +kernel
theorem dX11_house_62 : decode cX11_house 62 = .ok (.iload 4, 2) := by decide +kernel
theorem dX11_house_64 : decode cX11_house 64 = .ok (.ifCond .ne 8, 3) := by decide +kernel
theorem dX11_house_67 : decode cX11_house 67 = .ok (.iload 7, 2) := by decide +kernel
theorem dX11_house_69 : decode cX11_house 69 = .ok (.goto 5, 3) := by decide +kernel
theorem dX11_house_72 : decode cX11_house 72 = .ok (.iload 5, 2) := by decide +kernel
theorem dX11_house_74 : decode cX11_house 74 = .ok (.istore 5, 2) := by decide +kernel
theorem dX11_house_76 : decode cX11_house 76 = .ok (.iload 6, 2) := by decide +kernel
theorem dX11_house_78 : decode cX11_house 78 = .ok (.iload 7, 2) := by decide +kernel
theorem dX11_house_80 : decode cX11_house 80 = .ok (.iand, 1) := by decide +kernel
theorem dX11_house_81 : decode cX11_house 81 = .ok (.istore 6, 2) := by decide +kernel
theorem dX11_house_83 : decode cX11_house 83 = .ok (.iinc 4 1, 3) := by decide +kernel
theorem dX11_house_86 : decode cX11_house 86 = .ok (.iinc 7 1, 3) := by decide +kernel
theorem dX11_house_89 : decode cX11_house 89 = .ok (.goto (-46), 3) := by decide +kernel
theorem dX11_house_92 : decode cX11_house 92 = .ok (.aload_n 0, 1) := by decide +kernel
theorem dX11_house_93 : decode cX11_house 93 = .ok (.getfield 19, 3) := by decide +kernel
theorem dX11_house_96 : decode cX11_house 96 = .ok (.iload 5, 2) := by decide +kernel
theorem dX11_house_98 : decode cX11_house 98 = .ok (.i2l, 1) := by decide +kernel
theorem dX11_house_99 : decode cX11_house 99 = .ok (.iload 4, 2) := by decide +kernel
theorem dX11_house_101 : decode cX11_house 101 = .ok (.ifCond .ne 7, 3) := by decide +kernel
theorem dX11_house_104 : decode cX11_house 104 = .ok (.lconst 0, 1) := by decide +kernel
theorem dX11_house_105 : decode cX11_house 105 = .ok (.goto 6, 3) := by decide +kernel
theorem dX11_house_108 : decode cX11_house 108 = .ok (.iload 6, 2) := by decide +kernel
theorem dX11_house_110 : decode cX11_house 110 = .ok (.i2l, 1) := by decide +kernel
theorem dX11_house_111 : decode cX11_house 111 = .ok (.invokevirtual 244, 3) := by decide +kernel
theorem dX11_house_114 : decode cX11_house 114 = .ok (.iload 4, 2) := by decide +kernel
theorem dX11_house_116 : decode cX11_house 116 = .ok (.ireturn, 1) := by decide +kernel
theorem dX12_house_0 : decode cX12_house 0 = .ok (.aload_n 0, 1) := by decide +kernel
theorem dX12_house_1 : decode cX12_house 1 = .ok (.iconst 0, 1) := by decide +kernel
theorem dX12_house_2 : decode cX12_house 2 = .ok (.putfield 95, 3) := by decide +kernel
theorem dX12_house_5 : decode cX12_house 5 = .ok (.aload_n 0, 1) := by decide +kernel
theorem dX12_house_6 : decode cX12_house 6 = .ok (.iload_n 1, 1) := by decide +kernel
theorem dX12_house_7 : decode cX12_house 7 = .ok (.invokevirtual 224, 3) := by decide +kernel
theorem dX12_house_10 : decode cX12_house 10 = .ok (.ifCond .eq 14, 3) := by decide +kernel
theorem dX12_house_13 : decode cX12_house 13 = .ok (.iload_n 2, 1) := by decide +kernel
theorem dX12_house_14 : decode cX12_house 14 = .ok (.iconst 0, 1) := by decide +kernel
theorem dX12_house_15 : decode cX12_house 15 = .ok (.sipush 999, 3) := by decide +kernel
theorem dX12_house_18 : decode cX12_house 18 = .ok (.invokestatic 104, 3) := by decide +kernel
theorem dX12_house_21 : decode cX12_house 21 = .ok (.ifCond .ne 5, 3) := by decide +kernel
theorem dX12_house_24 : decode cX12_house 24 = .ok (.iconst (-1), 1) := by decide +kernel
theorem dX12_house_25 : decode cX12_house 25 = .ok (.ireturn, 1) := by decide +kernel
theorem dX12_house_26 : decode cX12_house 26 = .ok (.iconst 0, 1) := by decide +kernel
theorem dX12_house_27 : decode cX12_house 27 = .ok (.istore_n 3, 1) := by decide +kernel
theorem dX12_house_28 : decode cX12_house 28 = .ok (.iconst (-1), 1) := by decide +kernel
theorem dX12_house_29 : decode cX12_house 29 = .ok (.istore 4, 2) := by decide +kernel
theorem dX12_house_31 : decode cX12_house 31 = .ok (.aload_n 0, 1) := by decide +kernel
theorem dX12_house_32 : decode cX12_house 32 = .ok (.getfield 26, 3) := by decide +kernel
theorem dX12_house_35 : decode cX12_house 35 = .ok (.iload_n 1, 1) := by decide +kernel
theorem dX12_house_36 : decode cX12_house 36 = .ok (.iaload, 1) := by decide +kernel
theorem dX12_house_37 : decode cX12_house 37 = .ok (.istore 5, 2) := by decide +kernel
theorem dX12_house_39 : decode cX12_house 39 = .ok (.iconst 0, 1) := by decide +kernel
theorem dX12_house_40 : decode cX12_house 40 = .ok (.istore 6, 2) := by decide +kernel
theorem dX12_house_42 : decode cX12_house 42 = .ok (.iload 6, 2) := by decide +kernel
theorem dX12_house_44 : decode cX12_house 44 = .ok (.aload_n 0, 1) := by decide +kernel
theorem dX12_house_45 : decode cX12_house 45 = .ok (.getfield 26, 3) := by decide +kernel
theorem dX12_house_48 : decode cX12_house 48 = .ok (.iload_n 1, 1) := by decide +kernel
theorem dX12_house_49 : decode cX12_house 49 = .ok (.iaload, 1) := by decide +kernel
theorem dX12_house_50 : decode cX12_house 50 = .ok (.if_icmp .gt 59, 3) := by decide +kernel
theorem dX12_house_53 : decode cX12_house 53 = .ok (.iload 6, 2) := by decide +kernel
theorem dX12_house_55 : decode cX12_house 55 = .ok (.aload_n 0, 1) := by decide +kernel
theorem dX12_house_56 : decode cX12_house 56 = .ok (.getfield 26, 3) := by decide +kernel
theorem dX12_house_59 : decode cX12_house 59 = .ok (.iload_n 1, 1) := by decide +kernel
theorem dX12_house_60 : decode cX12_house 60 = .ok (.iaload, 1) := by decide +kernel
theorem dX12_house_61 : decode cX12_house 61 = .ok (.iconst (-1), 1) := by decide +kernel
theorem dX12_house_62 : decode cX12_house 62 = .ok (.ixor, 1) := by decide +kernel
theorem dX12_house_63 : decode cX12_house 63 = .ok (.iand, 1) := by decide +kernel
theorem dX12_house_64 : decode cX12_house 64 = .ok (.ifCond .ne 39, 3) := by decide +kernel
theorem dX12_house_67 : decode cX12_house 67 = .ok (.aload_n 0, 1) := by decide +kernel
theorem dX12_house_68 : decode cX12_house 68 = .ok (.iload 6, 2) := by decide +kernel
theorem dX12_house_70 : decode cX12_house 70 = .ok (.invokevirtual 239, 3) := by decide +kernel
theorem dX12_house_73 : decode cX12_house 73 = .ok (.iload_n 2, 1) := by decide +kernel
theorem dX12_house_74 : decode cX12_house 74 = .ok (.if_icmp .eq 6, 3) := by decide +kernel
theorem dX12_house_77 : decode cX12_house 77 = .ok (.goto 26, 3) := by decide +kernel
theorem dX12_house_80 : decode cX12_house 80 = .ok (.iload_n 3, 1) := by decide +kernel
theorem dX12_house_81 : decode cX12_house 81 = .ok (.ifCond .ne 8, 3) := by decide +kernel
theorem dX12_house_84 : decode cX12_house 84 = .ok (.iload 6, 2) := by decide +kernel
theorem dX12_house_86 : decode cX12_house 86 = .ok (.goto 5, 3) := by decide +kernel
theorem dX12_house_89 : decode cX12_house 89 = .ok (.iload 4, 2) := by decide +kernel
theorem dX12_house_91 : decode cX12_house 91 = .ok (.istore 4, 2) := by decide +kernel
theorem dX12_house_93 : decode cX12_house 93 = .ok (.iload 5, 2) := by decide +kernel
theorem dX12_house_95 : decode cX12_house 95 = .ok (.iload 6, 2) := by decide +kernel
theorem dX12_house_97 : decode cX12_house 97 = .ok (.iand, 1) := by decide +kernel
theorem dX12_house_98 : decode cX12_house 98 = .ok (.istore 5, 2) := by decide +kernel
theorem dX12_house_100 : decode cX12_house 100 = .ok (.iinc 3 1, 3) := by decide +kernel
theorem dX12_house_103 : decode cX12_house 103 = .ok (.iinc 6 1, 3) := by decide +kernel
theorem dX12_house_106 : decode cX12_house 106 = .ok (.goto (-64), 3) := by decide +kernel
theorem dX12_house_109 : decode cX12_house 109 = .ok (.aload_n 0, 1) := by decide +kernel
theorem dX12_house_110 : decode cX12_house 110 = .ok (.iconst 0, 1) := by decide +kernel
theorem dX12_house_111 : decode cX12_house 111 = .ok (.putfield 98, 3) := by decide +kernel
theorem dX12_house_114 : decode cX12_house 114 = .ok (.aload_n 0, 1) := by decide +kernel
theorem dX12_house_115 : decode cX12_house 115 = .ok (.iload 4, 2) := by decide +kernel
theorem dX12_house_117 : decode cX12_house 117 = .ok (.i2l, 1) := by decide +kernel
theorem dX12_house_118 : decode cX12_house 118 = .ok (.invokevirtual 267, 3) := by decide +kernel
theorem dX12_house_121 : decode cX12_house 121 = .ok (.aload_n 0, 1) := by decide +kernel
theorem dX12_house_122 : decode cX12_house 122 = .ok (.iload_n 3, 1) := by decide +kernel
theorem dX12_house_123 : decode cX12_house 123 = .ok (.ifCond .ne 7, 3) := by decide +kernel
theorem dX12_house_126 : decode cX12_house 126 = .ok (.lconst 0, 1) := by decide +kernel
theorem dX12_house_127 : decode cX12_house 127 = .ok (.goto 6, 3) := by decide +kernel
theorem dX12_house_130 : decode cX12_house 130 = .ok (.iload 5, 2) := by decide +kernel
theorem dX12_house_132 : decode cX12_house 132 = .ok (.i2l, 1) := by decide +kernel
theorem dX12_house_133 : decode cX12_house 133 = .ok (.invokevirtual 267, 3) := by decide +kernel
theorem dX12_house_136 : decode cX12_house 136 = .ok (.iload_n 3, 1) := by decide +kernel
theorem dX12_house_137 : decode cX12_house 137 = .ok (.ireturn, 1) := by decide +kernel
theorem dX11_partsWith_0 : decode cX11_partsWith 0 = .ok (.iconst 0, 1) := by decide +kernel
theorem dX11_partsWith_1 : decode cX11_partsWith 1 = .ok (.istore 4, 2) := by decide +kernel
theorem dX11_partsWith_3 : decode cX11_partsWith 3 = .ok (.iconst 0, 1) := by decide +kernel
theorem dX11_partsWith_4 : decode cX11_partsWith 4 = .ok (.istore 5, 2) := by decide +kernel
theorem dX11_partsWith_6 : decode cX11_partsWith 6 = .ok (.iload 5, 2) := by decide +kernel
theorem dX11_partsWith_8 : decode cX11_partsWith 8 = .ok (.sipush 256, 3) := by decide +kernel
theorem dX11_partsWith_11 : decode cX11_partsWith 11 = .ok (.if_icmp .ge 31, 3) := by decide +kernel
theorem dX11_partsWith_14 : decode cX11_partsWith 14 = .ok (.iload 5, 2) := by decide +kernel
theorem dX11_partsWith_16 : decode cX11_partsWith 16 = .ok (.iload_n 2, 1) := by decide +kernel
theorem dX11_partsWith_17 : decode cX11_partsWith 17 = .ok (.iand, 1) := by decide +kernel
theorem dX11_partsWith_18 : decode cX11_partsWith 18 = .ok (.iload_n 2, 1) := by decide +kernel
theorem dX11_partsWith_19 : decode cX11_partsWith 19 = .ok (.if_icmp .ne 17, 3) := by decide +kernel
theorem dX11_partsWith_22 : decode cX11_partsWith 22 = .ok (.aload_n 0, 1) := by decide +kernel
theorem dX11_partsWith_23 : decode cX11_partsWith 23 = .ok (.iload 5, 2) := by decide +kernel
theorem dX11_partsWith_25 : decode cX11_partsWith 25 = .ok (.iload_n 1, 1) := by decide +kernel
theorem dX11_partsWith_26 : decode cX11_partsWith 26 = .ok (.iload_n 3, 1) := by decide +kernel
theorem dX11_partsWith_27 : decode cX11_partsWith 27 = .ok (.invokevirtual 371, 3) := by decide +kernel
theorem dX11_partsWith_30 : decode cX11_partsWith 30 = .ok (.ifCond .eq 6, 3) := by decide +kernel
theorem dX11_partsWith_33 : decode cX11_partsWith 33 = .ok (.iinc 4 1, 3) := by decide +kernel
theorem dX11_partsWith_36 : decode cX11_partsWith 36 = .ok (.iinc 5 1, 3) := by decide +kernel
theorem dX11_partsWith_39 : decode cX11_partsWith 39 = .ok (.goto (-33), 3) := by decide +kernel
theorem dX11_partsWith_42 : decode cX11_partsWith 42 = .ok (.iload 4, 2) := by decide +kernel
theorem dX11_partsWith_44 : decode cX11_partsWith 44 = .ok (.ireturn, 1) := by decide +kernel
theorem dX11_search_0 : decode cX11_search 0 = .ok (.aload_n 0, 1) := by decide +kernel
theorem dX11_search_1 : decode cX11_search 1 = .ok (.iload_n 1, 1) := by decide +kernel
theorem dX11_search_2 : decode cX11_search 2 = .ok (.invokevirtual 147, 3) := by decide +kernel
theorem dX11_search_5 : decode cX11_search 5 = .ok (.ifCond .eq 14, 3) := by decide +kernel
theorem dX11_search_8 : decode cX11_search 8 = .ok (.iload_n 2, 1) := by decide +kernel
theorem dX11_search_9 : decode cX11_search 9 = .ok (.ifCond .lt 10, 3) := by decide +kernel
theorem dX11_search_12 : decode cX11_search 12 = .ok (.iload_n 2, 1) := by decide +kernel
theorem dX11_search_13 : decode cX11_search 13 = .ok (.sipush 999, 3) := by decide +kernel
theorem dX11_search_16 : decode cX11_search 16 = .ok (.if_icmp .le 5, 3) := by decide +kernel
theorem dX11_search_19 : decode cX11_search 19 = .ok (.iconst (-1), 1) := by decide +kernel
theorem dX11_search_20 : decode cX11_search 20 = .ok (.ireturn, 1) := by decide +kernel
theorem dX11_search_21 : decode cX11_search 21 = .ok (.aload_n 0, 1) := by decide +kernel
theorem dX11_search_22 : decode cX11_search 22 = .ok (.getfield 26, 3) := by decide +kernel
theorem dX11_search_25 : decode cX11_search 25 = .ok (.getfield 169, 3) := by decide +kernel
theorem dX11_search_28 : decode cX11_search 28 = .ok (.iload_n 1, 1) := by decide +kernel
theorem dX11_search_29 : decode cX11_search 29 = .ok (.iaload, 1) := by decide +kernel
theorem dX11_search_30 : decode cX11_search 30 = .ok (.istore_n 3, 1) := by decide +kernel
theorem dX11_search_31 : decode cX11_search 31 = .ok (.aload_n 0, 1) := by decide +kernel
theorem dX11_search_32 : decode cX11_search 32 = .ok (.iload_n 3, 1) := by decide +kernel
theorem dX11_search_33 : decode cX11_search 33 = .ok (.iconst 0, 1) := by decide +kernel
theorem dX11_search_34 : decode cX11_search 34 = .ok (.iload_n 2, 1) := by decide +kernel
theorem dX11_search_35 : decode cX11_search 35 = .ok (.invokevirtual 375, 3) := by decide +kernel
theorem dX11_search_38 : decode cX11_search 38 = .ok (.istore 4, 2) := by decide +kernel
theorem dX11_search_40 : decode cX11_search 40 = .ok (.bipush (-2), 2) := by decide +kernel
theorem dX11_search_42 : decode cX11_search 42 = .ok (.istore 5, 2) := by decide +kernel
theorem dX11_search_44 : decode cX11_search 44 = .ok (.iload 4, 2) := by decide +kernel
theorem dX11_search_46 : decode cX11_search 46 = .ok (.iconst 1, 1) := by decide +kernel
theorem dX11_search_47 : decode cX11_search 47 = .ok (.iadd, 1) := by decide +kernel
theorem dX11_search_48 : decode cX11_search 48 = .ok (.istore 6, 2) := by decide +kernel
theorem dX11_search_50 : decode cX11_search 50 = .ok (.iconst 0, 1) := by decide +kernel
theorem dX11_search_51 : decode cX11_search 51 = .ok (.istore 7, 2) := by decide +kernel
theorem dX11_search_53 : decode cX11_search 53 = .ok (.iload 7, 2) := by decide +kernel
theorem dX11_search_55 : decode cX11_search 55 = .ok (.bipush 8, 2) := by decide +kernel
theorem dX11_search_57 : decode cX11_search 57 = .ok (.if_icmp .ge 65, 3) := by decide +kernel
theorem dX11_search_60 : decode cX11_search 60 = .ok (.iload 4, 2) := by decide +kernel
theorem dX11_search_62 : decode cX11_search 62 = .ok (.ifCond .le 60, 3) := by decide +kernel
theorem dX11_search_65 : decode cX11_search 65 = .ok (.iload_n 3, 1) := by decide +kernel
theorem dX11_search_66 : decode cX11_search 66 = .ok (.iload 7, 2) := by decide +kernel
theorem dX11_search_68 : decode cX11_search 68 = .ok (.ishr, 1) := by decide +kernel
theorem dX11_search_69 : decode cX11_search 69 = .ok (.iconst 1, 1) := by decide +kernel
theorem dX11_search_70 : decode cX11_search 70 = .ok (.iand, 1) := by decide +kernel
theorem dX11_search_71 : decode cX11_search 71 = .ok (.ifCond .ne 6, 3) := by decide +kernel
theorem dX11_search_74 : decode cX11_search 74 = .ok (.goto 42, 3) := by decide +kernel
theorem dX11_search_77 : decode cX11_search 77 = .ok (.aload_n 0, 1) := by decide +kernel
theorem dX11_search_78 : decode cX11_search 78 = .ok (.iload_n 3, 1) := by decide +kernel
theorem dX11_search_79 : decode cX11_search 79 = .ok (.iconst 1, 1) := by decide +kernel
theorem dX11_search_80 : decode cX11_search 80 = .ok (.iload 7, 2) := by decide +kernel
theorem dX11_search_82 : decode cX11_search 82 = .ok (.ishl, 1) := by decide +kernel
theorem dX11_search_83 : decode cX11_search 83 = .ok (.iload_n 2, 1) := by decide +kernel
theorem dX11_search_84 : decode cX11_search 84 = .ok (.invokevirtual 375, 3) := by decide +kernel
theorem dX11_search_87 : decode cX11_search 87 = .ok (.istore 8, 2) := by decide +kernel
theorem dX11_search_89 : decode cX11_search 89 = .ok (.iload 8, 2) := by decide +kernel
theorem dX11_search_91 : decode cX11_search 91 = .ok (.iload 4, 2) := by decide +kernel
theorem dX11_search_93 : decode cX11_search 93 = .ok (.iload 8, 2) := by decide +kernel
theorem dX11_search_95 : decode cX11_search 95 = .ok (.isub, 1) := by decide +kernel
theorem dX11_search_96 : decode cX11_search 96 = .ok (.invokestatic 378, 3) := by decide +kernel
theorem dX11_search_99 : decode cX11_search 99 = .ok (.istore 9, 2) := by decide +kernel
theorem dX11_search_101 : decode cX11_search 101 = .ok (.iload 9, 2) := by decide +kernel
theorem dX11_search_103 : decode cX11_search 103 = .ok (.iload 6, 2) := by decide +kernel
theorem dX11_search_105 : decode cX11_search 105 = .ok (.if_icmp .ge 11, 3) := by decide +kernel
theorem dX11_search_108 : decode cX11_search 108 = .ok (.iload 7, 2) := by decide +kernel
theorem dX11_search_110 : decode cX11_search 110 = .ok (.istore 5, 2) := by decide +kernel
theorem dX11_search_112 : decode cX11_search 112 = .ok (.iload 9, 2) := by decide +kernel
theorem dX11_search_114 : decode cX11_search 114 = .ok (.istore 6, 2) := by decide +kernel
theorem dX11_search_116 : decode cX11_search 116 = .ok (.iinc 7 1, 3) := by decide +kernel
theorem dX11_search_119 : decode cX11_search 119 = .ok (.goto (-66), 3) := by decide +kernel
theorem dX11_search_122 : decode cX11_search 122 = .ok (.iload 5, 2) := by decide +kernel
theorem dX11_search_124 : decode cX11_search 124 = .ok (.ifCond .lt 13, 3) := by decide +kernel
theorem dX11_search_127 : decode cX11_search 127 = .ok (.aload_n 0, 1) := by decide +kernel
theorem dX11_search_128 : decode cX11_search 128 = .ok (.getfield 19, 3) := by decide +kernel
theorem dX11_search_131 : decode cX11_search 131 = .ok (.iload 6, 2) := by decide +kernel
theorem dX11_search_133 : decode cX11_search 133 = .ok (.i2l, 1) := by decide +kernel
theorem dX11_search_134 : decode cX11_search 134 = .ok (.invokevirtual 228, 3) := by decide +kernel
theorem dX11_search_137 : decode cX11_search 137 = .ok (.iload 5, 2) := by decide +kernel
theorem dX11_search_139 : decode cX11_search 139 = .ok (.ireturn, 1) := by decide +kernel
theorem dX12_search_0 : decode cX12_search 0 = .ok (.aload_n 0, 1) := by decide +kernel
theorem dX12_search_1 : decode cX12_search 1 = .ok (.iconst 0, 1) := by decide +kernel
theorem dX12_search_2 : decode cX12_search 2 = .ok (.putfield 95, 3) := by decide +kernel
theorem dX12_search_5 : decode cX12_search 5 = .ok (.aload_n 0, 1) := by decide +kernel
theorem dX12_search_6 : decode cX12_search 6 = .ok (.iload_n 1, 1) := by decide +kernel
theorem dX12_search_7 : decode cX12_search 7 = .ok (.invokevirtual 224, 3) := by decide +kernel
theorem dX12_search_10 : decode cX12_search 10 = .ok (.ifCond .eq 14, 3) := by decide +kernel
theorem dX12_search_13 : decode cX12_search 13 = .ok (.iload_n 2, 1) := by decide +kernel
theorem dX12_search_14 : decode cX12_search 14 = .ok (.iconst 0, 1) := by decide +kernel
theorem dX12_search_15 : decode cX12_search 15 = .ok (.sipush 999, 3) := by decide +kernel
theorem dX12_search_18 : decode cX12_search 18 = .ok (.invokestatic 104, 3) := by decide +kernel
theorem dX12_search_21 : decode cX12_search 21 = .ok (.ifCond .ne 5, 3) := by decide +kernel
theorem dX12_search_24 : decode cX12_search 24 = .ok (.iconst (-1), 1) := by decide +kernel
theorem dX12_search_25 : decode cX12_search 25 = .ok (.ireturn, 1) := by decide +kernel
theorem dX12_search_26 : decode cX12_search 26 = .ok (.iconst (-1), 1) := by decide +kernel
theorem dX12_search_27 : decode cX12_search 27 = .ok (.istore_n 3, 1) := by decide +kernel
theorem dX12_search_28 : decode cX12_search 28 = .ok (.ldc_w 368, 3) := by decide +kernel
theorem dX12_search_31 : decode cX12_search 31 = .ok (.istore 4, 2) := by decide +kernel
theorem dX12_search_33 : decode cX12_search 33 = .ok (.iconst 0, 1) := by decide +kernel
theorem dX12_search_34 : decode cX12_search 34 = .ok (.istore 5, 2) := by decide +kernel
theorem dX12_search_36 : decode cX12_search 36 = .ok (.iload 5, 2) := by decide +kernel
theorem dX12_search_38 : decode cX12_search 38 = .ok (.bipush 8, 2) := by decide +kernel
theorem dX12_search_40 : decode cX12_search 40 = .ok (.if_icmp .ge 136, 3) := by decide +kernel
theorem dX12_search_43 : decode cX12_search 43 = .ok (.aload_n 0, 1) := by decide +kernel
theorem dX12_search_44 : decode cX12_search 44 = .ok (.getfield 26, 3) := by decide +kernel
theorem dX12_search_47 : decode cX12_search 47 = .ok (.iload_n 1, 1) := by decide +kernel
theorem dX12_search_48 : decode cX12_search 48 = .ok (.iaload, 1) := by decide +kernel
theorem dX12_search_49 : decode cX12_search 49 = .ok (.iload 5, 2) := by decide +kernel
theorem dX12_search_51 : decode cX12_search 51 = .ok (.invokestatic 158, 3) := by decide +kernel
theorem dX12_search_54 : decode cX12_search 54 = .ok (.ifCond .ne 6, 3) := by decide +kernel
theorem dX12_search_57 : decode cX12_search 57 = .ok (.goto 113, 3) := by decide +kernel
theorem dX12_search_60 : decode cX12_search 60 = .ok (.iconst 0, 1) := by decide +kernel
theorem dX12_search_61 : decode cX12_search 61 = .ok (.istore 6, 2) := by decide +kernel
theorem dX12_search_63 : decode cX12_search 63 = .ok (.iconst 0, 1) := by decide +kernel
theorem dX12_search_64 : decode cX12_search 64 = .ok (.istore 7, 2) := by decide +kernel
theorem dX12_search_66 : decode cX12_search 66 = .ok (.iconst 0, 1) := by decide +kernel
theorem dX12_search_67 : decode cX12_search 67 = .ok (.istore 8, 2) := by decide +kernel
theorem dX12_search_69 : decode cX12_search 69 = .ok (.iload 8, 2) := by decide +kernel
theorem dX12_search_71 : decode cX12_search 71 = .ok (.aload_n 0, 1) := by decide +kernel
theorem dX12_search_72 : decode cX12_search 72 = .ok (.getfield 26, 3) := by decide +kernel
theorem dX12_search_75 : decode cX12_search 75 = .ok (.iload_n 1, 1) := by decide +kernel
theorem dX12_search_76 : decode cX12_search 76 = .ok (.iaload, 1) := by decide +kernel
theorem dX12_search_77 : decode cX12_search 77 = .ok (.if_icmp .gt 55, 3) := by decide +kernel
theorem dX12_search_80 : decode cX12_search 80 = .ok (.iload 8, 2) := by decide +kernel
theorem dX12_search_82 : decode cX12_search 82 = .ok (.aload_n 0, 1) := by decide +kernel
theorem dX12_search_83 : decode cX12_search 83 = .ok (.getfield 26, 3) := by decide +kernel
theorem dX12_search_86 : decode cX12_search 86 = .ok (.iload_n 1, 1) := by decide +kernel
theorem dX12_search_87 : decode cX12_search 87 = .ok (.iaload, 1) := by decide +kernel
theorem dX12_search_88 : decode cX12_search 88 = .ok (.iconst (-1), 1) := by decide +kernel
theorem dX12_search_89 : decode cX12_search 89 = .ok (.ixor, 1) := by decide +kernel
theorem dX12_search_90 : decode cX12_search 90 = .ok (.iand, 1) := by decide +kernel
theorem dX12_search_91 : decode cX12_search 91 = .ok (.ifCond .ne 35, 3) := by decide +kernel
theorem dX12_search_94 : decode cX12_search 94 = .ok (.aload_n 0, 1) := by decide +kernel
theorem dX12_search_95 : decode cX12_search 95 = .ok (.iload 8, 2) := by decide +kernel
theorem dX12_search_97 : decode cX12_search 97 = .ok (.invokevirtual 239, 3) := by decide +kernel
theorem dX12_search_100 : decode cX12_search 100 = .ok (.iload_n 2, 1) := by decide +kernel
theorem dX12_search_101 : decode cX12_search 101 = .ok (.if_icmp .eq 6, 3) := by decide +kernel
theorem dX12_search_104 : decode cX12_search 104 = .ok (.goto 22, 3) := by decide +kernel
theorem dX12_search_107 : decode cX12_search 107 = .ok (.iload 8, 2) := by decide +kernel
theorem dX12_search_109 : decode cX12_search 109 = .ok (.iload 5, 2) := by decide +kernel
theorem dX12_search_111 : decode cX12_search 111 = .ok (.invokestatic 158, 3) := by decide +kernel
theorem dX12_search_114 : decode cX12_search 114 = .ok (.ifCond .eq 9, 3) := by decide +kernel
theorem dX12_search_117 : decode cX12_search 117 = .ok (.iinc 6 1, 3) := by decide +kernel
theorem dX12_search_120 : decode cX12_search 120 = .ok (.goto 6, 3) := by decide +kernel
theorem dX12_search_123 : decode cX12_search 123 = .ok (.iinc 7 1, 3) := by decide +kernel
theorem dX12_search_126 : decode cX12_search 126 = .ok (.iinc 8 1, 3) := by decide +kernel
theorem dX12_search_129 : decode cX12_search 129 = .ok (.goto (-60), 3) := by decide +kernel
theorem dX12_search_132 : decode cX12_search 132 = .ok (.iload 6, 2) := by decide +kernel
theorem dX12_search_134 : decode cX12_search 134 = .ok (.iload 7, 2) := by decide +kernel
theorem dX12_search_136 : decode cX12_search 136 = .ok (.iadd, 1) := by decide +kernel
theorem dX12_search_137 : decode cX12_search 137 = .ok (.ifCond .ne 6, 3) := by decide +kernel
theorem dX12_search_140 : decode cX12_search 140 = .ok (.bipush (-2), 2) := by decide +kernel
theorem dX12_search_142 : decode cX12_search 142 = .ok (.ireturn, 1) := by decide +kernel
theorem dX12_search_143 : decode cX12_search 143 = .ok (.iload 6, 2) := by decide +kernel
theorem dX12_search_145 : decode cX12_search 145 = .ok (.iload 7, 2) := by decide +kernel
theorem dX12_search_147 : decode cX12_search 147 = .ok (.invokestatic 217, 3) := by decide +kernel
theorem dX12_search_150 : decode cX12_search 150 = .ok (.iload 4, 2) := by decide +kernel
theorem dX12_search_152 : decode cX12_search 152 = .ok (.if_icmp .lt 6, 3) := by decide +kernel
theorem dX12_search_155 : decode cX12_search 155 = .ok (.goto 15, 3) := by decide +kernel
theorem dX12_search_158 : decode cX12_search 158 = .ok (.iload 5, 2) := by decide +kernel
theorem dX12_search_160 : decode cX12_search 160 = .ok (.istore_n 3, 1) := by decide +kernel
theorem dX12_search_161 : decode cX12_search 161 = .ok (.iload 6, 2) := by decide +kernel
theorem dX12_search_163 : decode cX12_search 163 = .ok (.iload 7, 2) := by decide +kernel
theorem dX12_search_165 : decode cX12_search 165 = .ok (.invokestatic 217, 3) := by decide +kernel
theorem dX12_search_168 : decode cX12_search 168 = .ok (.istore 4, 2) := by decide +kernel
theorem dX12_search_170 : decode cX12_search 170 = .ok (.iinc 5 1, 3) := by decide +kernel
theorem dX12_search_173 : decode cX12_search 173 = .ok (.goto (-137), 3) := by decide +kernel
theorem dX12_search_176 : decode cX12_search 176 = .ok (.iload_n 3, 1) := by decide +kernel
theorem dX12_search_177 : decode cX12_search 177 = .ok (.iconst (-1), 1) := by decide +kernel
theorem dX12_search_178 : decode cX12_search 178 = .ok (.if_icmp .ne 6, 3) := by decide +kernel
theorem dX12_search_181 : decode cX12_search 181 = .ok (.bipush (-2), 2) := by decide +kernel
theorem dX12_search_183 : decode cX12_search 183 = .ok (.ireturn, 1) := by decide +kernel
theorem dX12_search_184 : decode cX12_search 184 = .ok (.aload_n 0, 1) := by decide +kernel
theorem dX12_search_185 : decode cX12_search 185 = .ok (.iconst 0, 1) := by decide +kernel
theorem dX12_search_186 : decode cX12_search 186 = .ok (.putfield 98, 3) := by decide +kernel
theorem dX12_search_189 : decode cX12_search 189 = .ok (.aload_n 0, 1) := by decide +kernel
theorem dX12_search_190 : decode cX12_search 190 = .ok (.iload 4, 2) := by decide +kernel
theorem dX12_search_192 : decode cX12_search 192 = .ok (.i2l, 1) := by decide +kernel
theorem dX12_search_193 : decode cX12_search 193 = .ok (.invokevirtual 267, 3) := by decide +kernel
theorem dX12_search_196 : decode cX12_search 196 = .ok (.iload_n 3, 1) := by decide +kernel
theorem dX12_search_197 : decode cX12_search 197 = .ok (.ireturn, 1) := by decide +kernel
theorem dX11_ofJudge_0 : decode cX11_ofJudge 0 = .ok (.iload_n 1, 1) := by decide +kernel
theorem dX11_ofJudge_1 : decode cX11_ofJudge 1 = .ok (.iload_n 0, 1) := by decide +kernel
theorem dX11_ofJudge_2 : decode cX11_ofJudge 2 = .ok (.if_icmp .ge 7, 3) := by decide +kernel
theorem dX11_ofJudge_5 : decode cX11_ofJudge 5 = .ok (.iload_n 2, 1) := by decide +kernel
theorem dX11_ofJudge_6 : decode cX11_ofJudge 6 = .ok (.goto 4, 3) := by decide +kernel
theorem dX11_ofJudge_9 : decode cX11_ofJudge 9 = .ok (.iconst 0, 1) := by decide +kernel
theorem dX11_ofJudge_10 : decode cX11_ofJudge 10 = .ok (.iload_n 3, 1) := by decide +kernel
theorem dX11_ofJudge_11 : decode cX11_ofJudge 11 = .ok (.iload_n 0, 1) := by decide +kernel
theorem dX11_ofJudge_12 : decode cX11_ofJudge 12 = .ok (.imul, 1) := by decide +kernel
theorem dX11_ofJudge_13 : decode cX11_ofJudge 13 = .ok (.isub, 1) := by decide +kernel
theorem dX11_ofJudge_14 : decode cX11_ofJudge 14 = .ok (.ireturn, 1) := by decide +kernel
theorem dX11_ofPrisoner_0 : decode cX11_ofPrisoner 0 = .ok (.iload_n 1, 1) := by decide +kernel
theorem dX11_ofPrisoner_1 : decode cX11_ofPrisoner 1 = .ok (.iload_n 0, 1) := by decide +kernel
theorem dX11_ofPrisoner_2 : decode cX11_ofPrisoner 2 = .ok (.if_icmp .lt 7, 3) := by decide +kernel
theorem dX11_ofPrisoner_5 : decode cX11_ofPrisoner 5 = .ok (.iload_n 2, 1) := by decide +kernel
theorem dX11_ofPrisoner_6 : decode cX11_ofPrisoner 6 = .ok (.goto 4, 3) := by decide +kernel
theorem dX11_ofPrisoner_9 : decode cX11_ofPrisoner 9 = .ok (.iconst 0, 1) := by decide +kernel
theorem dX11_ofPrisoner_10 : decode cX11_ofPrisoner 10 = .ok (.iload_n 3, 1) := by decide +kernel
theorem dX11_ofPrisoner_11 : decode cX11_ofPrisoner 11 = .ok (.iload_n 1, 1) := by decide +kernel
theorem dX11_ofPrisoner_12 : decode cX11_ofPrisoner 12 = .ok (.imul, 1) := by decide +kernel
theorem dX11_ofPrisoner_13 : decode cX11_ofPrisoner 13 = .ok (.isub, 1) := by decide +kernel
theorem dX11_ofPrisoner_14 : decode cX11_ofPrisoner 14 = .ok (.ireturn, 1) := by decide +kernel
theorem dX11_isAtRest_0 : decode cX11_isAtRest 0 = .ok (.iload_n 0, 1) := by decide +kernel
theorem dX11_isAtRest_1 : decode cX11_isAtRest 1 = .ok (.iload_n 1, 1) := by decide +kernel
theorem dX11_isAtRest_2 : decode cX11_isAtRest 2 = .ok (.iload_n 2, 1) := by decide +kernel
theorem dX11_isAtRest_3 : decode cX11_isAtRest 3 = .ok (.iload_n 3, 1) := by decide +kernel
theorem dX11_isAtRest_4 : decode cX11_isAtRest 4 = .ok (.invokestatic 430, 3) := by decide +kernel
theorem dX11_isAtRest_7 : decode cX11_isAtRest 7 = .ok (.istore 4, 2) := by decide +kernel
theorem dX11_isAtRest_9 : decode cX11_isAtRest 9 = .ok (.iload_n 0, 1) := by decide +kernel
theorem dX11_isAtRest_10 : decode cX11_isAtRest 10 = .ok (.iload_n 1, 1) := by decide +kernel
theorem dX11_isAtRest_11 : decode cX11_isAtRest 11 = .ok (.iload_n 2, 1) := by decide +kernel
theorem dX11_isAtRest_12 : decode cX11_isAtRest 12 = .ok (.iload_n 3, 1) := by decide +kernel
theorem dX11_isAtRest_13 : decode cX11_isAtRest 13 = .ok (.invokestatic 433, 3) := by decide +kernel
theorem dX11_isAtRest_16 : decode cX11_isAtRest 16 = .ok (.istore 5, 2) := by decide +kernel
theorem dX11_isAtRest_18 : decode cX11_isAtRest 18 = .ok (.iconst 0, 1) := by decide +kernel
theorem dX11_isAtRest_19 : decode cX11_isAtRest 19 = .ok (.istore 6, 2) := by decide +kernel
theorem dX11_isAtRest_21 : decode cX11_isAtRest 21 = .ok (.iload 6, 2) := by decide +kernel
theorem dX11_isAtRest_23 : decode cX11_isAtRest 23 = .ok (.bipush 10, 2) := by decide +kernel
theorem dX11_isAtRest_25 : decode cX11_isAtRest 25 = .ok (.if_icmp .ge 37, 3) := by decide +kernel
theorem dX11_isAtRest_28 : decode cX11_isAtRest 28 = .ok (.iload 6, 2) := by decide +kernel
theorem dX11_isAtRest_30 : decode cX11_isAtRest 30 = .ok (.iload_n 1, 1) := by decide +kernel
theorem dX11_isAtRest_31 : decode cX11_isAtRest 31 = .ok (.iload_n 2, 1) := by decide +kernel
theorem dX11_isAtRest_32 : decode cX11_isAtRest 32 = .ok (.iload_n 3, 1) := by decide +kernel
theorem dX11_isAtRest_33 : decode cX11_isAtRest 33 = .ok (.invokestatic 430, 3) := by decide +kernel
theorem dX11_isAtRest_36 : decode cX11_isAtRest 36 = .ok (.iload 4, 2) := by decide +kernel
theorem dX11_isAtRest_38 : decode cX11_isAtRest 38 = .ok (.if_icmp .gt 16, 3) := by decide +kernel
theorem dX11_isAtRest_41 : decode cX11_isAtRest 41 = .ok (.iload_n 0, 1) := by decide +kernel
theorem dX11_isAtRest_42 : decode cX11_isAtRest 42 = .ok (.iload 6, 2) := by decide +kernel
theorem dX11_isAtRest_44 : decode cX11_isAtRest 44 = .ok (.iload_n 2, 1) := by decide +kernel
theorem dX11_isAtRest_45 : decode cX11_isAtRest 45 = .ok (.iload_n 3, 1) := by decide +kernel
theorem dX11_isAtRest_46 : decode cX11_isAtRest 46 = .ok (.invokestatic 433, 3) := by decide +kernel
theorem dX11_isAtRest_49 : decode cX11_isAtRest 49 = .ok (.iload 5, 2) := by decide +kernel
theorem dX11_isAtRest_51 : decode cX11_isAtRest 51 = .ok (.if_icmp .le 5, 3) := by decide +kernel
theorem dX11_isAtRest_54 : decode cX11_isAtRest 54 = .ok (.iconst 0, 1) := by decide +kernel
theorem dX11_isAtRest_55 : decode cX11_isAtRest 55 = .ok (.ireturn, 1) := by decide +kernel
theorem dX11_isAtRest_56 : decode cX11_isAtRest 56 = .ok (.iinc 6 1, 3) := by decide +kernel
theorem dX11_isAtRest_59 : decode cX11_isAtRest 59 = .ok (.goto (-38), 3) := by decide +kernel
theorem dX11_isAtRest_62 : decode cX11_isAtRest 62 = .ok (.iconst 1, 1) := by decide +kernel
theorem dX11_isAtRest_63 : decode cX11_isAtRest 63 = .ok (.ireturn, 1) := by decide +kernel
theorem dX11_rests_0 : decode cX11_rests 0 = .ok (.iload_n 1, 1) := by decide +kernel
theorem dX11_rests_1 : decode cX11_rests 1 = .ok (.ifCond .lt 19, 3) := by decide +kernel
theorem dX11_rests_4 : decode cX11_rests 4 = .ok (.iload_n 1, 1) := by decide +kernel
theorem dX11_rests_5 : decode cX11_rests 5 = .ok (.bipush 99, 2) := by decide +kernel
theorem dX11_rests_7 : decode cX11_rests 7 = .ok (.if_icmp .gt 13, 3) := by decide +kernel
theorem dX11_rests_10 : decode cX11_rests 10 = .ok (.iload_n 2, 1) := by decide +kernel
theorem dX11_rests_11 : decode cX11_rests 11 = .ok (.ifCond .lt 9, 3) := by decide +kernel
theorem dX11_rests_14 : decode cX11_rests 14 = .ok (.iload_n 2, 1) := by decide +kernel
theorem dX11_rests_15 : decode cX11_rests 15 = .ok (.bipush 9, 2) := by decide +kernel
theorem dX11_rests_17 : decode cX11_rests 17 = .ok (.if_icmp .le 5, 3) := by decide +kernel
theorem dX11_rests_20 : decode cX11_rests 20 = .ok (.iconst (-1), 1) := by decide +kernel
theorem dX11_rests_21 : decode cX11_rests 21 = .ok (.ireturn, 1) := by decide +kernel
theorem dX11_rests_22 : decode cX11_rests 22 = .ok (.iconst 0, 1) := by decide +kernel
theorem dX11_rests_23 : decode cX11_rests 23 = .ok (.istore_n 3, 1) := by decide +kernel
theorem dX11_rests_24 : decode cX11_rests 24 = .ok (.aload_n 0, 1) := by decide +kernel
theorem dX11_rests_25 : decode cX11_rests 25 = .ok (.getfield 19, 3) := by decide +kernel
theorem dX11_rests_28 : decode cX11_rests 28 = .ok (.invokevirtual 284, 3) := by decide +kernel
theorem dX11_rests_31 : decode cX11_rests 31 = .ok (.iconst 0, 1) := by decide +kernel
theorem dX11_rests_32 : decode cX11_rests 32 = .ok (.istore 4, 2) := by decide +kernel
theorem dX11_rests_34 : decode cX11_rests 34 = .ok (.iload 4, 2) := by decide +kernel
theorem dX11_rests_36 : decode cX11_rests 36 = .ok (.bipush 10, 2) := by decide +kernel
theorem dX11_rests_38 : decode cX11_rests 38 = .ok (.if_icmp .ge 60, 3) := by decide +kernel
theorem dX11_rests_41 : decode cX11_rests 41 = .ok (.iconst 0, 1) := by decide +kernel
theorem dX11_rests_42 : decode cX11_rests 42 = .ok (.istore 5, 2) := by decide +kernel
theorem dX11_rests_44 : decode cX11_rests 44 = .ok (.iload 5, 2) := by decide +kernel
theorem dX11_rests_46 : decode cX11_rests 46 = .ok (.bipush 10, 2) := by decide +kernel
theorem dX11_rests_48 : decode cX11_rests 48 = .ok (.if_icmp .ge 44, 3) := by decide +kernel
theorem dX11_rests_51 : decode cX11_rests 51 = .ok (.iload 4, 2) := by decide +kernel
theorem dX11_rests_53 : decode cX11_rests 53 = .ok (.iload 5, 2) := by decide +kernel
theorem dX11_rests_55 : decode cX11_rests 55 = .ok (.iload_n 1, 1) := by decide +kernel
theorem dX11_rests_56 : decode cX11_rests 56 = .ok (.iload_n 2, 1) := by decide +kernel
theorem dX11_rests_57 : decode cX11_rests 57 = .ok (.invokestatic 383, 3) := by decide +kernel
theorem dX11_rests_60 : decode cX11_rests 60 = .ok (.ifCond .ne 6, 3) := by decide +kernel
theorem dX11_rests_63 : decode cX11_rests 63 = .ok (.goto 23, 3) := by decide +kernel
theorem dX11_rests_66 : decode cX11_rests 66 = .ok (.iload_n 3, 1) := by decide +kernel
theorem dX11_rests_67 : decode cX11_rests 67 = .ok (.ifCond .ne 16, 3) := by decide +kernel
theorem dX11_rests_70 : decode cX11_rests 70 = .ok (.aload_n 0, 1) := by decide +kernel
theorem dX11_rests_71 : decode cX11_rests 71 = .ok (.getfield 19, 3) := by decide +kernel
theorem dX11_rests_74 : decode cX11_rests 74 = .ok (.iload 4, 2) := by decide +kernel
theorem dX11_rests_76 : decode cX11_rests 76 = .ok (.i2l, 1) := by decide +kernel
theorem dX11_rests_77 : decode cX11_rests 77 = .ok (.iload 5, 2) := by decide +kernel
theorem dX11_rests_79 : decode cX11_rests 79 = .ok (.i2l, 1) := by decide +kernel
theorem dX11_rests_80 : decode cX11_rests 80 = .ok (.invokevirtual 244, 3) := by decide +kernel
theorem dX11_rests_83 : decode cX11_rests 83 = .ok (.iinc 3 1, 3) := by decide +kernel
theorem dX11_rests_86 : decode cX11_rests 86 = .ok (.iinc 5 1, 3) := by decide +kernel
theorem dX11_rests_89 : decode cX11_rests 89 = .ok (.goto (-45), 3) := by decide +kernel
theorem dX11_rests_92 : decode cX11_rests 92 = .ok (.iinc 4 1, 3) := by decide +kernel
theorem dX11_rests_95 : decode cX11_rests 95 = .ok (.goto (-61), 3) := by decide +kernel
theorem dX11_rests_98 : decode cX11_rests 98 = .ok (.iload_n 3, 1) := by decide +kernel
theorem dX11_rests_99 : decode cX11_rests 99 = .ok (.ireturn, 1) := by decide +kernel
theorem dX12_judgeGets_0 : decode cX12_judgeGets 0 = .ok (.iload_n 1, 1) := by decide +kernel
theorem dX12_judgeGets_1 : decode cX12_judgeGets 1 = .ok (.iload_n 0, 1) := by decide +kernel
theorem dX12_judgeGets_2 : decode cX12_judgeGets 2 = .ok (.if_icmp .lt 7, 3) := by decide +kernel
theorem dX12_judgeGets_5 : decode cX12_judgeGets 5 = .ok (.iconst 0, 1) := by decide +kernel
theorem dX12_judgeGets_6 : decode cX12_judgeGets 6 = .ok (.goto 4, 3) := by decide +kernel
theorem dX12_judgeGets_9 : decode cX12_judgeGets 9 = .ok (.iload_n 2, 1) := by decide +kernel
theorem dX12_judgeGets_10 : decode cX12_judgeGets 10 = .ok (.iload_n 3, 1) := by decide +kernel
theorem dX12_judgeGets_11 : decode cX12_judgeGets 11 = .ok (.iload_n 0, 1) := by decide +kernel
theorem dX12_judgeGets_12 : decode cX12_judgeGets 12 = .ok (.imul, 1) := by decide +kernel
theorem dX12_judgeGets_13 : decode cX12_judgeGets 13 = .ok (.isub, 1) := by decide +kernel
theorem dX12_judgeGets_14 : decode cX12_judgeGets 14 = .ok (.ireturn, 1) := by decide +kernel
theorem dX12_manGets_0 : decode cX12_manGets 0 = .ok (.iload_n 1, 1) := by decide +kernel
theorem dX12_manGets_1 : decode cX12_manGets 1 = .ok (.iload_n 0, 1) := by decide +kernel
theorem dX12_manGets_2 : decode cX12_manGets 2 = .ok (.if_icmp .lt 7, 3) := by decide +kernel
theorem dX12_manGets_5 : decode cX12_manGets 5 = .ok (.iload_n 2, 1) := by decide +kernel
theorem dX12_manGets_6 : decode cX12_manGets 6 = .ok (.goto 4, 3) := by decide +kernel
theorem dX12_manGets_9 : decode cX12_manGets 9 = .ok (.iconst 0, 1) := by decide +kernel
theorem dX12_manGets_10 : decode cX12_manGets 10 = .ok (.iload_n 3, 1) := by decide +kernel
theorem dX12_manGets_11 : decode cX12_manGets 11 = .ok (.iload_n 1, 1) := by decide +kernel
theorem dX12_manGets_12 : decode cX12_manGets 12 = .ok (.imul, 1) := by decide +kernel
theorem dX12_manGets_13 : decode cX12_manGets 13 = .ok (.isub, 1) := by decide +kernel
theorem dX12_manGets_14 : decode cX12_manGets 14 = .ok (.ireturn, 1) := by decide +kernel
theorem dX12_isRest_0 : decode cX12_isRest 0 = .ok (.iconst 0, 1) := by decide +kernel
theorem dX12_isRest_1 : decode cX12_isRest 1 = .ok (.istore 4, 2) := by decide +kernel
theorem dX12_isRest_3 : decode cX12_isRest 3 = .ok (.iload 4, 2) := by decide +kernel
theorem dX12_isRest_5 : decode cX12_isRest 5 = .ok (.bipush 9, 2) := by decide +kernel
theorem dX12_isRest_7 : decode cX12_isRest 7 = .ok (.if_icmp .gt 49, 3) := by decide +kernel
theorem dX12_isRest_10 : decode cX12_isRest 10 = .ok (.iload 4, 2) := by decide +kernel
theorem dX12_isRest_12 : decode cX12_isRest 12 = .ok (.iload_n 1, 1) := by decide +kernel
theorem dX12_isRest_13 : decode cX12_isRest 13 = .ok (.iload_n 2, 1) := by decide +kernel
theorem dX12_isRest_14 : decode cX12_isRest 14 = .ok (.iload_n 3, 1) := by decide +kernel
theorem dX12_isRest_15 : decode cX12_isRest 15 = .ok (.invokestatic 369, 3) := by decide +kernel
theorem dX12_isRest_18 : decode cX12_isRest 18 = .ok (.iload_n 0, 1) := by decide +kernel
theorem dX12_isRest_19 : decode cX12_isRest 19 = .ok (.iload_n 1, 1) := by decide +kernel
theorem dX12_isRest_20 : decode cX12_isRest 20 = .ok (.iload_n 2, 1) := by decide +kernel
theorem dX12_isRest_21 : decode cX12_isRest 21 = .ok (.iload_n 3, 1) := by decide +kernel
theorem dX12_isRest_22 : decode cX12_isRest 22 = .ok (.invokestatic 369, 3) := by decide +kernel
theorem dX12_isRest_25 : decode cX12_isRest 25 = .ok (.if_icmp .le 5, 3) := by decide +kernel
theorem dX12_isRest_28 : decode cX12_isRest 28 = .ok (.iconst 0, 1) := by decide +kernel
theorem dX12_isRest_29 : decode cX12_isRest 29 = .ok (.ireturn, 1) := by decide +kernel
theorem dX12_isRest_30 : decode cX12_isRest 30 = .ok (.iload_n 0, 1) := by decide +kernel
theorem dX12_isRest_31 : decode cX12_isRest 31 = .ok (.iload 4, 2) := by decide +kernel
theorem dX12_isRest_33 : decode cX12_isRest 33 = .ok (.iload_n 2, 1) := by decide +kernel
theorem dX12_isRest_34 : decode cX12_isRest 34 = .ok (.iload_n 3, 1) := by decide +kernel
theorem dX12_isRest_35 : decode cX12_isRest 35 = .ok (.invokestatic 372, 3) := by decide +kernel
theorem dX12_isRest_38 : decode cX12_isRest 38 = .ok (.iload_n 0, 1) := by decide +kernel
theorem dX12_isRest_39 : decode cX12_isRest 39 = .ok (.iload_n 1, 1) := by decide +kernel
theorem dX12_isRest_40 : decode cX12_isRest 40 = .ok (.iload_n 2, 1) := by decide +kernel
theorem dX12_isRest_41 : decode cX12_isRest 41 = .ok (.iload_n 3, 1) := by decide +kernel
theorem dX12_isRest_42 : decode cX12_isRest 42 = .ok (.invokestatic 372, 3) := by decide +kernel
theorem dX12_isRest_45 : decode cX12_isRest 45 = .ok (.if_icmp .le 5, 3) := by decide +kernel
theorem dX12_isRest_48 : decode cX12_isRest 48 = .ok (.iconst 0, 1) := by decide +kernel
theorem dX12_isRest_49 : decode cX12_isRest 49 = .ok (.ireturn, 1) := by decide +kernel
theorem dX12_isRest_50 : decode cX12_isRest 50 = .ok (.iinc 4 1, 3) := by decide +kernel
theorem dX12_isRest_53 : decode cX12_isRest 53 = .ok (.goto (-50), 3) := by decide +kernel
theorem dX12_isRest_56 : decode cX12_isRest 56 = .ok (.iconst 1, 1) := by decide +kernel
theorem dX12_isRest_57 : decode cX12_isRest 57 = .ok (.ireturn, 1) := by decide +kernel
theorem dX12_rests_0 : decode cX12_rests 0 = .ok (.aload_n 0, 1) := by decide +kernel
theorem dX12_rests_1 : decode cX12_rests 1 = .ok (.iconst 0, 1) := by decide +kernel
theorem dX12_rests_2 : decode cX12_rests 2 = .ok (.putfield 95, 3) := by decide +kernel
theorem dX12_rests_5 : decode cX12_rests 5 = .ok (.iload_n 1, 1) := by decide +kernel
theorem dX12_rests_6 : decode cX12_rests 6 = .ok (.iconst 0, 1) := by decide +kernel
theorem dX12_rests_7 : decode cX12_rests 7 = .ok (.bipush 99, 2) := by decide +kernel
theorem dX12_rests_9 : decode cX12_rests 9 = .ok (.invokestatic 104, 3) := by decide +kernel
theorem dX12_rests_12 : decode cX12_rests 12 = .ok (.ifCond .eq 13, 3) := by decide +kernel
theorem dX12_rests_15 : decode cX12_rests 15 = .ok (.iload_n 2, 1) := by decide +kernel
theorem dX12_rests_16 : decode cX12_rests 16 = .ok (.iconst 0, 1) := by decide +kernel
theorem dX12_rests_17 : decode cX12_rests 17 = .ok (.bipush 9, 2) := by decide +kernel
theorem dX12_rests_19 : decode cX12_rests 19 = .ok (.invokestatic 104, 3) := by decide +kernel
theorem dX12_rests_22 : decode cX12_rests 22 = .ok (.ifCond .ne 5, 3) := by decide +kernel
theorem dX12_rests_25 : decode cX12_rests 25 = .ok (.iconst (-1), 1) := by decide +kernel
theorem dX12_rests_26 : decode cX12_rests 26 = .ok (.ireturn, 1) := by decide +kernel
theorem dX12_rests_27 : decode cX12_rests 27 = .ok (.iconst 0, 1) := by decide +kernel
theorem dX12_rests_28 : decode cX12_rests 28 = .ok (.istore_n 3, 1) := by decide +kernel
theorem dX12_rests_29 : decode cX12_rests 29 = .ok (.aload_n 0, 1) := by decide +kernel
theorem dX12_rests_30 : decode cX12_rests 30 = .ok (.iconst 0, 1) := by decide +kernel
theorem dX12_rests_31 : decode cX12_rests 31 = .ok (.putfield 98, 3) := by decide +kernel
theorem dX12_rests_34 : decode cX12_rests 34 = .ok (.iconst 0, 1) := by decide +kernel
theorem dX12_rests_35 : decode cX12_rests 35 = .ok (.istore 4, 2) := by decide +kernel
theorem dX12_rests_37 : decode cX12_rests 37 = .ok (.iload 4, 2) := by decide +kernel
theorem dX12_rests_39 : decode cX12_rests 39 = .ok (.bipush 9, 2) := by decide +kernel
theorem dX12_rests_41 : decode cX12_rests 41 = .ok (.if_icmp .gt 61, 3) := by decide +kernel
theorem dX12_rests_44 : decode cX12_rests 44 = .ok (.iconst 0, 1) := by decide +kernel
theorem dX12_rests_45 : decode cX12_rests 45 = .ok (.istore 5, 2) := by decide +kernel
theorem dX12_rests_47 : decode cX12_rests 47 = .ok (.iload 5, 2) := by decide +kernel
theorem dX12_rests_49 : decode cX12_rests 49 = .ok (.bipush 9, 2) := by decide +kernel
theorem dX12_rests_51 : decode cX12_rests 51 = .ok (.if_icmp .gt 45, 3) := by decide +kernel
theorem dX12_rests_54 : decode cX12_rests 54 = .ok (.iload 4, 2) := by decide +kernel
theorem dX12_rests_56 : decode cX12_rests 56 = .ok (.iload 5, 2) := by decide +kernel
theorem dX12_rests_58 : decode cX12_rests 58 = .ok (.iload_n 1, 1) := by decide +kernel
theorem dX12_rests_59 : decode cX12_rests 59 = .ok (.iload_n 2, 1) := by decide +kernel
theorem dX12_rests_60 : decode cX12_rests 60 = .ok (.invokestatic 375, 3) := by decide +kernel
theorem dX12_rests_63 : decode cX12_rests 63 = .ok (.ifCond .ne 6, 3) := by decide +kernel
theorem dX12_rests_66 : decode cX12_rests 66 = .ok (.goto 24, 3) := by decide +kernel
theorem dX12_rests_69 : decode cX12_rests 69 = .ok (.iload_n 3, 1) := by decide +kernel
theorem dX12_rests_70 : decode cX12_rests 70 = .ok (.ifCond .ne 17, 3) := by decide +kernel
theorem dX12_rests_73 : decode cX12_rests 73 = .ok (.aload_n 0, 1) := by decide +kernel
theorem dX12_rests_74 : decode cX12_rests 74 = .ok (.iload 4, 2) := by decide +kernel
theorem dX12_rests_76 : decode cX12_rests 76 = .ok (.i2l, 1) := by decide +kernel
theorem dX12_rests_77 : decode cX12_rests 77 = .ok (.invokevirtual 267, 3) := by decide +kernel
theorem dX12_rests_80 : decode cX12_rests 80 = .ok (.aload_n 0, 1) := by decide +kernel
theorem dX12_rests_81 : decode cX12_rests 81 = .ok (.iload 5, 2) := by decide +kernel
theorem dX12_rests_83 : decode cX12_rests 83 = .ok (.i2l, 1) := by decide +kernel
theorem dX12_rests_84 : decode cX12_rests 84 = .ok (.invokevirtual 267, 3) := by decide +kernel
theorem dX12_rests_87 : decode cX12_rests 87 = .ok (.iinc 3 1, 3) := by decide +kernel
theorem dX12_rests_90 : decode cX12_rests 90 = .ok (.iinc 5 1, 3) := by decide +kernel
theorem dX12_rests_93 : decode cX12_rests 93 = .ok (.goto (-46), 3) := by decide +kernel
theorem dX12_rests_96 : decode cX12_rests 96 = .ok (.iinc 4 1, 3) := by decide +kernel
theorem dX12_rests_99 : decode cX12_rests 99 = .ok (.goto (-62), 3) := by decide +kernel
theorem dX12_rests_102 : decode cX12_rests 102 = .ok (.iload_n 3, 1) := by decide +kernel
theorem dX12_rests_103 : decode cX12_rests 103 = .ok (.ireturn, 1) := by decide +kernel
theorem dX11_drawn_0 : decode cX11_drawn 0 = .ok (.iload_n 1, 1) := by decide +kernel
theorem dX11_drawn_1 : decode cX11_drawn 1 = .ok (.iconst 1, 1) := by decide +kernel
theorem dX11_drawn_2 : decode cX11_drawn 2 = .ok (.if_icmp .ge 7, 3) := by decide +kernel
theorem dX11_drawn_5 : decode cX11_drawn 5 = .ok (.iconst 0, 1) := by decide +kernel
theorem dX11_drawn_6 : decode cX11_drawn 6 = .ok (.goto 9, 3) := by decide +kernel
theorem dX11_drawn_9 : decode cX11_drawn 9 = .ok (.iload_n 0, 1) := by decide +kernel
theorem dX11_drawn_10 : decode cX11_drawn 10 = .ok (.bipush 16, 2) := by decide +kernel
theorem dX11_drawn_12 : decode cX11_drawn 12 = .ok (.iushr, 1) := by decide +kernel
theorem dX11_drawn_13 : decode cX11_drawn 13 = .ok (.iload_n 1, 1) := by decide +kernel
theorem dX11_drawn_14 : decode cX11_drawn 14 = .ok (.irem, 1) := by decide +kernel
theorem dX11_drawn_15 : decode cX11_drawn 15 = .ok (.ireturn, 1) := by decide +kernel
theorem dX11_stirred_0 : decode cX11_stirred 0 = .ok (.iload_n 0, 1) := by decide +kernel
theorem dX11_stirred_1 : decode cX11_stirred 1 = .ok (.ldc_w 436, 3) := by decide +kernel
theorem dX11_stirred_4 : decode cX11_stirred 4 = .ok (.imul, 1) := by decide +kernel
theorem dX11_stirred_5 : decode cX11_stirred 5 = .ok (.sipush 12345, 3) := by decide +kernel
theorem dX11_stirred_8 : decode cX11_stirred 8 = .ok (.iadd, 1) := by decide +kernel
theorem dX11_stirred_9 : decode cX11_stirred 9 = .ok (.ireturn, 1) := by decide +kernel
theorem dX4_performDrawn_0 : decode cX4_performDrawn 0 = .ok (.iload_n 2, 1) := by decide +kernel
theorem dX4_performDrawn_1 : decode cX4_performDrawn 1 = .ok (.tableswitch 58 0 2 #[27, 38, 49], 27) := by decide +kernel
theorem dX4_performDrawn_28 : decode cX4_performDrawn 28 = .ok (.aload_n 0, 1) := by decide +kernel
theorem dX4_performDrawn_29 : decode cX4_performDrawn 29 = .ok (.iload_n 1, 1) := by decide +kernel
theorem dX4_performDrawn_30 : decode cX4_performDrawn 30 = .ok (.bipush 10, 2) := by decide +kernel
theorem dX4_performDrawn_32 : decode cX4_performDrawn 32 = .ok (.invokevirtual 100, 3) := by decide +kernel
theorem dX4_performDrawn_35 : decode cX4_performDrawn 35 = .ok (.pop, 1) := by decide +kernel
theorem dX4_performDrawn_36 : decode cX4_performDrawn 36 = .ok (.goto 29, 3) := by decide +kernel
theorem dX4_performDrawn_39 : decode cX4_performDrawn 39 = .ok (.aload_n 0, 1) := by decide +kernel
theorem dX4_performDrawn_40 : decode cX4_performDrawn 40 = .ok (.iload_n 1, 1) := by decide +kernel
theorem dX4_performDrawn_41 : decode cX4_performDrawn 41 = .ok (.bipush (-10), 2) := by decide +kernel
theorem dX4_performDrawn_43 : decode cX4_performDrawn 43 = .ok (.invokevirtual 100, 3) := by decide +kernel
theorem dX4_performDrawn_46 : decode cX4_performDrawn 46 = .ok (.pop, 1) := by decide +kernel
theorem dX4_performDrawn_47 : decode cX4_performDrawn 47 = .ok (.goto 18, 3) := by decide +kernel
theorem dX4_performDrawn_50 : decode cX4_performDrawn 50 = .ok (.aload_n 0, 1) := by decide +kernel
theorem dX4_performDrawn_51 : decode cX4_performDrawn 51 = .ok (.iload_n 1, 1) := by decide +kernel
theorem dX4_performDrawn_52 : decode cX4_performDrawn 52 = .ok (.invokevirtual 103, 3) := by decide +kernel
theorem dX4_performDrawn_55 : decode cX4_performDrawn 55 = .ok (.pop, 1) := by decide +kernel
theorem dX4_performDrawn_56 : decode cX4_performDrawn 56 = .ok (.goto 9, 3) := by decide +kernel
theorem dX4_performDrawn_59 : decode cX4_performDrawn 59 = .ok (.aload_n 0, 1) := by decide +kernel
theorem dX4_performDrawn_60 : decode cX4_performDrawn 60 = .ok (.iload_n 1, 1) := by decide +kernel
theorem dX4_performDrawn_61 : decode cX4_performDrawn 61 = .ok (.invokevirtual 106, 3) := by decide +kernel
theorem dX4_performDrawn_64 : decode cX4_performDrawn 64 = .ok (.pop, 1) := by decide +kernel
theorem dX4_performDrawn_65 : decode cX4_performDrawn 65 = .ok (.return_, 1) := by decide +kernel
theorem dX11_years_0 : decode cX11_years 0 = .ok (.aload_n 0, 1) := by decide +kernel
theorem dX11_years_1 : decode cX11_years 1 = .ok (.getfield 26, 3) := by decide +kernel
theorem dX11_years_4 : decode cX11_years 4 = .ok (.getfield 119, 3) := by decide +kernel
theorem dX11_years_7 : decode cX11_years 7 = .ok (.ifCond .ne 6, 3) := by decide +kernel
theorem dX11_years_10 : decode cX11_years 10 = .ok (.bipush (-2), 2) := by decide +kernel
theorem dX11_years_12 : decode cX11_years 12 = .ok (.ireturn, 1) := by decide +kernel
theorem dX11_years_13 : decode cX11_years 13 = .ok (.iload_n 2, 1) := by decide +kernel
theorem dX11_years_14 : decode cX11_years 14 = .ok (.iconst 1, 1) := by decide +kernel
theorem dX11_years_15 : decode cX11_years 15 = .ok (.if_icmp .lt 9, 3) := by decide +kernel
theorem dX11_years_18 : decode cX11_years 18 = .ok (.iload_n 2, 1) := by decide +kernel
theorem dX11_years_19 : decode cX11_years 19 = .ok (.bipush 60, 2) := by decide +kernel
theorem dX11_years_21 : decode cX11_years 21 = .ok (.if_icmp .le 5, 3) := by decide +kernel
theorem dX11_years_24 : decode cX11_years 24 = .ok (.iconst (-1), 1) := by decide +kernel
theorem dX11_years_25 : decode cX11_years 25 = .ok (.ireturn, 1) := by decide +kernel
theorem dX11_years_26 : decode cX11_years 26 = .ok (.aload_n 0, 1) := by decide +kernel
theorem dX11_years_27 : decode cX11_years 27 = .ok (.getfield 69, 3) := by decide +kernel
theorem dX11_years_30 : decode cX11_years 30 = .ok (.aload_n 0, 1) := by decide +kernel
theorem dX11_years_31 : decode cX11_years 31 = .ok (.getfield 65, 3) := by decide +kernel
theorem dX11_years_34 : decode cX11_years 34 = .ok (.invokevirtual 297, 3) := by decide +kernel
theorem dX11_years_37 : decode cX11_years 37 = .ok (.iload_n 1, 1) := by decide +kernel
theorem dX11_years_38 : decode cX11_years 38 = .ok (.istore_n 3, 1) := by decide +kernel
theorem dX11_years_39 : decode cX11_years 39 = .ok (.iconst 0, 1) := by decide +kernel
theorem dX11_years_40 : decode cX11_years 40 = .ok (.istore 4, 2) := by decide +kernel
theorem dX11_years_42 : decode cX11_years 42 = .ok (.iload 4, 2) := by decide +kernel
theorem dX11_years_44 : decode cX11_years 44 = .ok (.iload_n 2, 1) := by decide +kernel
theorem dX11_years_45 : decode cX11_years 45 = .ok (.if_icmp .ge 58, 3) := by decide +kernel
theorem dX11_years_48 : decode cX11_years 48 = .ok (.iload_n 3, 1) := by decide +kernel
theorem dX11_years_49 : decode cX11_years 49 = .ok (.invokestatic 387, 3) := by decide +kernel
theorem dX11_years_52 : decode cX11_years 52 = .ok (.istore_n 3, 1) := by decide +kernel
theorem dX11_years_53 : decode cX11_years 53 = .ok (.iload_n 3, 1) := by decide +kernel
theorem dX11_years_54 : decode cX11_years 54 = .ok (.aload_n 0, 1) := by decide +kernel
theorem dX11_years_55 : decode cX11_years 55 = .ok (.getfield 26, 3) := by decide +kernel
theorem dX11_years_58 : decode cX11_years 58 = .ok (.getfield 119, 3) := by decide +kernel
theorem dX11_years_61 : decode cX11_years 61 = .ok (.invokestatic 390, 3) := by decide +kernel
theorem dX11_years_64 : decode cX11_years 64 = .ok (.istore 5, 2) := by decide +kernel
theorem dX11_years_66 : decode cX11_years 66 = .ok (.iload_n 3, 1) := by decide +kernel
theorem dX11_years_67 : decode cX11_years 67 = .ok (.invokestatic 387, 3) := by decide +kernel
theorem dX11_years_70 : decode cX11_years 70 = .ok (.istore_n 3, 1) := by decide +kernel
theorem dX11_years_71 : decode cX11_years 71 = .ok (.aload_n 0, 1) := by decide +kernel
theorem dX11_years_72 : decode cX11_years 72 = .ok (.getfield 69, 3) := by decide +kernel
theorem dX11_years_75 : decode cX11_years 75 = .ok (.iload 5, 2) := by decide +kernel
theorem dX11_years_77 : decode cX11_years 77 = .ok (.iload_n 3, 1) := by decide +kernel
theorem dX11_years_78 : decode cX11_years 78 = .ok (.iconst 4, 1) := by decide +kernel
theorem dX11_years_79 : decode cX11_years 79 = .ok (.invokestatic 390, 3) := by decide +kernel
theorem dX11_years_82 : decode cX11_years 82 = .ok (.invokevirtual 393, 3) := by decide +kernel
theorem dX11_years_85 : decode cX11_years 85 = .ok (.aload_n 0, 1) := by decide +kernel
theorem dX11_years_86 : decode cX11_years 86 = .ok (.getfield 69, 3) := by decide +kernel
theorem dX11_years_89 : decode cX11_years 89 = .ok (.aload_n 0, 1) := by decide +kernel
theorem dX11_years_90 : decode cX11_years 90 = .ok (.getfield 100, 3) := by decide +kernel
theorem dX11_years_93 : decode cX11_years 93 = .ok (.invokevirtual 396, 3) := by decide +kernel
theorem dX11_years_96 : decode cX11_years 96 = .ok (.pop, 1) := by decide +kernel
theorem dX11_years_97 : decode cX11_years 97 = .ok (.iinc 4 1, 3) := by decide +kernel
theorem dX11_years_100 : decode cX11_years 100 = .ok (.goto (-58), 3) := by decide +kernel
theorem dX11_years_103 : decode cX11_years 103 = .ok (.aload_n 0, 1) := by decide +kernel
theorem dX11_years_104 : decode cX11_years 104 = .ok (.getfield 69, 3) := by decide +kernel
theorem dX11_years_107 : decode cX11_years 107 = .ok (.iconst 2, 1) := by decide +kernel
theorem dX11_years_108 : decode cX11_years 108 = .ok (.invokevirtual 300, 3) := by decide +kernel
theorem dX11_years_111 : decode cX11_years 111 = .ok (.aload_n 0, 1) := by decide +kernel
theorem dX11_years_112 : decode cX11_years 112 = .ok (.getfield 65, 3) := by decide +kernel
theorem dX11_years_115 : decode cX11_years 115 = .ok (.iconst 2, 1) := by decide +kernel
theorem dX11_years_116 : decode cX11_years 116 = .ok (.invokevirtual 300, 3) := by decide +kernel
theorem dX11_years_119 : decode cX11_years 119 = .ok (.iconst (-1), 1) := by decide +kernel
theorem dX11_years_120 : decode cX11_years 120 = .ok (.ixor, 1) := by decide +kernel
theorem dX11_years_121 : decode cX11_years 121 = .ok (.iand, 1) := by decide +kernel
theorem dX11_years_122 : decode cX11_years 122 = .ok (.istore 4, 2) := by decide +kernel
theorem dX11_years_124 : decode cX11_years 124 = .ok (.aload_n 0, 1) := by decide +kernel
theorem dX11_years_125 : decode cX11_years 125 = .ok (.getfield 69, 3) := by decide +kernel
theorem dX11_years_128 : decode cX11_years 128 = .ok (.iconst 4, 1) := by decide +kernel
theorem dX11_years_129 : decode cX11_years 129 = .ok (.invokevirtual 300, 3) := by decide +kernel
theorem dX11_years_132 : decode cX11_years 132 = .ok (.aload_n 0, 1) := by decide +kernel
theorem dX11_years_133 : decode cX11_years 133 = .ok (.getfield 65, 3) := by decide +kernel
theorem dX11_years_136 : decode cX11_years 136 = .ok (.iconst 4, 1) := by decide +kernel
theorem dX11_years_137 : decode cX11_years 137 = .ok (.invokevirtual 300, 3) := by decide +kernel
theorem dX11_years_140 : decode cX11_years 140 = .ok (.iconst (-1), 1) := by decide +kernel
theorem dX11_years_141 : decode cX11_years 141 = .ok (.ixor, 1) := by decide +kernel
theorem dX11_years_142 : decode cX11_years 142 = .ok (.iand, 1) := by decide +kernel
theorem dX11_years_143 : decode cX11_years 143 = .ok (.istore 5, 2) := by decide +kernel
theorem dX11_years_145 : decode cX11_years 145 = .ok (.aload_n 0, 1) := by decide +kernel
theorem dX11_years_146 : decode cX11_years 146 = .ok (.getfield 19, 3) := by decide +kernel
theorem dX11_years_149 : decode cX11_years 149 = .ok (.iload 4, 2) := by decide +kernel
theorem dX11_years_151 : decode cX11_years 151 = .ok (.invokestatic 292, 3) := by decide +kernel
theorem dX11_years_154 : decode cX11_years 154 = .ok (.i2l, 1) := by decide +kernel
theorem dX11_years_155 : decode cX11_years 155 = .ok (.iload 5, 2) := by decide +kernel
theorem dX11_years_157 : decode cX11_years 157 = .ok (.invokestatic 292, 3) := by decide +kernel
theorem dX11_years_160 : decode cX11_years 160 = .ok (.i2l, 1) := by decide +kernel
theorem dX11_years_161 : decode cX11_years 161 = .ok (.invokevirtual 244, 3) := by decide +kernel
theorem dX11_years_164 : decode cX11_years 164 = .ok (.aload_n 0, 1) := by decide +kernel
theorem dX11_years_165 : decode cX11_years 165 = .ok (.getfield 69, 3) := by decide +kernel
theorem dX11_years_168 : decode cX11_years 168 = .ok (.getfield 399, 3) := by decide +kernel
theorem dX11_years_171 : decode cX11_years 171 = .ok (.ireturn, 1) := by decide +kernel
theorem dX12_draw_0 : decode cX12_draw 0 = .ok (.aload_n 0, 1) := by decide +kernel
theorem dX12_draw_1 : decode cX12_draw 1 = .ok (.aload_n 0, 1) := by decide +kernel
theorem dX12_draw_2 : decode cX12_draw 2 = .ok (.getfield 379, 3) := by decide +kernel
theorem dX12_draw_5 : decode cX12_draw 5 = .ok (.ldc_w 382, 3) := by decide +kernel
theorem dX12_draw_8 : decode cX12_draw 8 = .ok (.imul, 1) := by decide +kernel
theorem dX12_draw_9 : decode cX12_draw 9 = .ok (.sipush 12345, 3) := by decide +kernel
theorem dX12_draw_12 : decode cX12_draw 12 = .ok (.iadd, 1) := by decide +kernel
theorem dX12_draw_13 : decode cX12_draw 13 = .ok (.putfield 379, 3) := by decide +kernel
theorem dX12_draw_16 : decode cX12_draw 16 = .ok (.aload_n 0, 1) := by decide +kernel
theorem dX12_draw_17 : decode cX12_draw 17 = .ok (.getfield 379, 3) := by decide +kernel
theorem dX12_draw_20 : decode cX12_draw 20 = .ok (.bipush 16, 2) := by decide +kernel
theorem dX12_draw_22 : decode cX12_draw 22 = .ok (.iushr, 1) := by decide +kernel
theorem dX12_draw_23 : decode cX12_draw 23 = .ok (.iload_n 1, 1) := by decide +kernel
theorem dX12_draw_24 : decode cX12_draw 24 = .ok (.irem, 1) := by decide +kernel
theorem dX12_draw_25 : decode cX12_draw 25 = .ok (.ireturn, 1) := by decide +kernel
theorem dX12_years_0 : decode cX12_years 0 = .ok (.aload_n 0, 1) := by decide +kernel
theorem dX12_years_1 : decode cX12_years 1 = .ok (.iconst 0, 1) := by decide +kernel
theorem dX12_years_2 : decode cX12_years 2 = .ok (.putfield 95, 3) := by decide +kernel
theorem dX12_years_5 : decode cX12_years 5 = .ok (.aload_n 0, 1) := by decide +kernel
theorem dX12_years_6 : decode cX12_years 6 = .ok (.getfield 101, 3) := by decide +kernel
theorem dX12_years_9 : decode cX12_years 9 = .ok (.ifCond .ne 6, 3) := by decide +kernel
theorem dX12_years_12 : decode cX12_years 12 = .ok (.bipush (-2), 2) := by decide +kernel
theorem dX12_years_14 : decode cX12_years 14 = .ok (.ireturn, 1) := by decide +kernel
theorem dX12_years_15 : decode cX12_years 15 = .ok (.iload_n 2, 1) := by decide +kernel
theorem dX12_years_16 : decode cX12_years 16 = .ok (.iconst 1, 1) := by decide +kernel
theorem dX12_years_17 : decode cX12_years 17 = .ok (.bipush 60, 2) := by decide +kernel
theorem dX12_years_19 : decode cX12_years 19 = .ok (.invokestatic 104, 3) := by decide +kernel
theorem dX12_years_22 : decode cX12_years 22 = .ok (.ifCond .ne 5, 3) := by decide +kernel
theorem dX12_years_25 : decode cX12_years 25 = .ok (.iconst (-1), 1) := by decide +kernel
theorem dX12_years_26 : decode cX12_years 26 = .ok (.ireturn, 1) := by decide +kernel
theorem dX12_years_27 : decode cX12_years 27 = .ok (.aload_n 0, 1) := by decide +kernel
theorem dX12_years_28 : decode cX12_years 28 = .ok (.iload_n 1, 1) := by decide +kernel
theorem dX12_years_29 : decode cX12_years 29 = .ok (.putfield 379, 3) := by decide +kernel
theorem dX12_years_32 : decode cX12_years 32 = .ok (.iconst 0, 1) := by decide +kernel
theorem dX12_years_33 : decode cX12_years 33 = .ok (.istore_n 3, 1) := by decide +kernel
theorem dX12_years_34 : decode cX12_years 34 = .ok (.aload_n 0, 1) := by decide +kernel
theorem dX12_years_35 : decode cX12_years 35 = .ok (.getfield 9, 3) := by decide +kernel
theorem dX12_years_38 : decode cX12_years 38 = .ok (.aload_n 0, 1) := by decide +kernel
theorem dX12_years_39 : decode cX12_years 39 = .ok (.getfield 68, 3) := by decide +kernel
theorem dX12_years_42 : decode cX12_years 42 = .ok (.iconst 0, 1) := by decide +kernel
theorem dX12_years_43 : decode cX12_years 43 = .ok (.invokestatic 242, 3) := by decide +kernel
theorem dX12_years_46 : decode cX12_years 46 = .ok (.iconst 0, 1) := by decide +kernel
theorem dX12_years_47 : decode cX12_years 47 = .ok (.istore 4, 2) := by decide +kernel
theorem dX12_years_49 : decode cX12_years 49 = .ok (.iload 4, 2) := by decide +kernel
theorem dX12_years_51 : decode cX12_years 51 = .ok (.iload_n 2, 1) := by decide +kernel
theorem dX12_years_52 : decode cX12_years 52 = .ok (.if_icmp .ge 157, 3) := by decide +kernel
theorem dX12_years_55 : decode cX12_years 55 = .ok (.aload_n 0, 1) := by decide +kernel
theorem dX12_years_56 : decode cX12_years 56 = .ok (.aload_n 0, 1) := by decide +kernel
theorem dX12_years_57 : decode cX12_years 57 = .ok (.getfield 101, 3) := by decide +kernel
theorem dX12_years_60 : decode cX12_years 60 = .ok (.invokevirtual 383, 3) := by decide +kernel
theorem dX12_years_63 : decode cX12_years 63 = .ok (.istore 5, 2) := by decide +kernel
theorem dX12_years_65 : decode cX12_years 65 = .ok (.aload_n 0, 1) := by decide +kernel
theorem dX12_years_66 : decode cX12_years 66 = .ok (.iconst 4, 1) := by decide +kernel
theorem dX12_years_67 : decode cX12_years 67 = .ok (.invokevirtual 383, 3) := by decide +kernel
theorem dX12_years_70 : decode cX12_years 70 = .ok (.istore 6, 2) := by decide +kernel
theorem dX12_years_72 : decode cX12_years 72 = .ok (.iload 6, 2) := by decide +kernel
theorem dX12_years_74 : decode cX12_years 74 = .ok (.iconst 2, 1) := by decide +kernel
theorem dX12_years_75 : decode cX12_years 75 = .ok (.if_icmp .ge 34, 3) := by decide +kernel
theorem dX12_years_78 : decode cX12_years 78 = .ok (.aload_n 0, 1) := by decide +kernel
theorem dX12_years_79 : decode cX12_years 79 = .ok (.getfield 68, 3) := by decide +kernel
theorem dX12_years_82 : decode cX12_years 82 = .ok (.iload 5, 2) := by decide +kernel
theorem dX12_years_84 : decode cX12_years 84 = .ok (.iaload, 1) := by decide +kernel
theorem dX12_years_85 : decode cX12_years 85 = .ok (.ifCond .ne 24, 3) := by decide +kernel
theorem dX12_years_88 : decode cX12_years 88 = .ok (.aload_n 0, 1) := by decide +kernel
theorem dX12_years_89 : decode cX12_years 89 = .ok (.getfield 68, 3) := by decide +kernel
theorem dX12_years_92 : decode cX12_years 92 = .ok (.iload 5, 2) := by decide +kernel
theorem dX12_years_94 : decode cX12_years 94 = .ok (.iload 6, 2) := by decide +kernel
theorem dX12_years_96 : decode cX12_years 96 = .ok (.ifCond .ne 8, 3) := by decide +kernel
theorem dX12_years_99 : decode cX12_years 99 = .ok (.bipush 10, 2) := by decide +kernel
theorem dX12_years_101 : decode cX12_years 101 = .ok (.goto 5, 3) := by decide +kernel
theorem dX12_years_104 : decode cX12_years 104 = .ok (.bipush (-10), 2) := by decide +kernel
theorem dX12_years_106 : decode cX12_years 106 = .ok (.invokestatic 253, 3) := by decide +kernel
theorem dX12_years_109 : decode cX12_years 109 = .ok (.iload 6, 2) := by decide +kernel
theorem dX12_years_111 : decode cX12_years 111 = .ok (.iconst 2, 1) := by decide +kernel
theorem dX12_years_112 : decode cX12_years 112 = .ok (.if_icmp .ne 44, 3) := by decide +kernel
theorem dX12_years_115 : decode cX12_years 115 = .ok (.aload_n 0, 1) := by decide +kernel
theorem dX12_years_116 : decode cX12_years 116 = .ok (.getfield 68, 3) := by decide +kernel
theorem dX12_years_119 : decode cX12_years 119 = .ok (.iload 5, 2) := by decide +kernel
theorem dX12_years_121 : decode cX12_years 121 = .ok (.iaload, 1) := by decide +kernel
theorem dX12_years_122 : decode cX12_years 122 = .ok (.ifCond .ne 34, 3) := by decide +kernel
theorem dX12_years_125 : decode cX12_years 125 = .ok (.aload_n 0, 1) := by decide +kernel
theorem dX12_years_126 : decode cX12_years 126 = .ok (.iload 5, 2) := by decide +kernel
theorem dX12_years_128 : decode cX12_years 128 = .ok (.aload_n 0, 1) := by decide +kernel
theorem dX12_years_129 : decode cX12_years 129 = .ok (.aload_n 0, 1) := by decide +kernel
theorem dX12_years_130 : decode cX12_years 130 = .ok (.getfield 68, 3) := by decide +kernel
theorem dX12_years_133 : decode cX12_years 133 = .ok (.iload 5, 2) := by decide +kernel
theorem dX12_years_135 : decode cX12_years 135 = .ok (.invokevirtual 231, 3) := by decide +kernel
theorem dX12_years_138 : decode cX12_years 138 = .ok (.invokevirtual 257, 3) := by decide +kernel
theorem dX12_years_141 : decode cX12_years 141 = .ok (.ifCond .eq 15, 3) := by decide +kernel
theorem dX12_years_144 : decode cX12_years 144 = .ok (.aload_n 0, 1) := by decide +kernel
theorem dX12_years_145 : decode cX12_years 145 = .ok (.getfield 68, 3) := by decide +kernel
theorem dX12_years_148 : decode cX12_years 148 = .ok (.iload 5, 2) := by decide +kernel
theorem dX12_years_150 : decode cX12_years 150 = .ok (.invokestatic 260, 3) := by decide +kernel
theorem dX12_years_153 : decode cX12_years 153 = .ok (.iinc 3 1, 3) := by decide +kernel
theorem dX12_years_156 : decode cX12_years 156 = .ok (.iload 6, 2) := by decide +kernel
theorem dX12_years_158 : decode cX12_years 158 = .ok (.iconst 3, 1) := by decide +kernel
theorem dX12_years_159 : decode cX12_years 159 = .ok (.if_icmp .ne 36, 3) := by decide +kernel
theorem dX12_years_162 : decode cX12_years 162 = .ok (.aload_n 0, 1) := by decide +kernel
theorem dX12_years_163 : decode cX12_years 163 = .ok (.getfield 68, 3) := by decide +kernel
theorem dX12_years_166 : decode cX12_years 166 = .ok (.iload 5, 2) := by decide +kernel
theorem dX12_years_168 : decode cX12_years 168 = .ok (.iaload, 1) := by decide +kernel
theorem dX12_years_169 : decode cX12_years 169 = .ok (.iconst 1, 1) := by decide +kernel
theorem dX12_years_170 : decode cX12_years 170 = .ok (.if_icmp .ne 25, 3) := by decide +kernel
theorem dX12_years_173 : decode cX12_years 173 = .ok (.aload_n 0, 1) := by decide +kernel
theorem dX12_years_174 : decode cX12_years 174 = .ok (.getfield 68, 3) := by decide +kernel
theorem dX12_years_177 : decode cX12_years 177 = .ok (.iload 5, 2) := by decide +kernel
theorem dX12_years_179 : decode cX12_years 179 = .ok (.aload_n 0, 1) := by decide +kernel
theorem dX12_years_180 : decode cX12_years 180 = .ok (.aload_n 0, 1) := by decide +kernel
theorem dX12_years_181 : decode cX12_years 181 = .ok (.aload_n 0, 1) := by decide +kernel
theorem dX12_years_182 : decode cX12_years 182 = .ok (.getfield 68, 3) := by decide +kernel
theorem dX12_years_185 : decode cX12_years 185 = .ok (.iload 5, 2) := by decide +kernel
theorem dX12_years_187 : decode cX12_years 187 = .ok (.iconst 0, 1) := by decide +kernel
theorem dX12_years_188 : decode cX12_years 188 = .ok (.invokevirtual 235, 3) := by decide +kernel
theorem dX12_years_191 : decode cX12_years 191 = .ok (.invokevirtual 264, 3) := by decide +kernel
theorem dX12_years_194 : decode cX12_years 194 = .ok (.iastore, 1) := by decide +kernel
theorem dX12_years_195 : decode cX12_years 195 = .ok (.aload_n 0, 1) := by decide +kernel
theorem dX12_years_196 : decode cX12_years 196 = .ok (.aload_n 0, 1) := by decide +kernel
theorem dX12_years_197 : decode cX12_years 197 = .ok (.getfield 68, 3) := by decide +kernel
theorem dX12_years_200 : decode cX12_years 200 = .ok (.invokevirtual 274, 3) := by decide +kernel
theorem dX12_years_203 : decode cX12_years 203 = .ok (.iinc 4 1, 3) := by decide +kernel
theorem dX12_years_206 : decode cX12_years 206 = .ok (.goto (-157), 3) := by decide +kernel
theorem dX12_years_209 : decode cX12_years 209 = .ok (.aload_n 0, 1) := by decide +kernel
theorem dX12_years_210 : decode cX12_years 210 = .ok (.iconst 0, 1) := by decide +kernel
theorem dX12_years_211 : decode cX12_years 211 = .ok (.putfield 98, 3) := by decide +kernel
theorem dX12_years_214 : decode cX12_years 214 = .ok (.aload_n 0, 1) := by decide +kernel
theorem dX12_years_215 : decode cX12_years 215 = .ok (.aload_n 0, 1) := by decide +kernel
theorem dX12_years_216 : decode cX12_years 216 = .ok (.aload_n 0, 1) := by decide +kernel
theorem dX12_years_217 : decode cX12_years 217 = .ok (.getfield 68, 3) := by decide +kernel
theorem dX12_years_220 : decode cX12_years 220 = .ok (.iconst 2, 1) := by decide +kernel
theorem dX12_years_221 : decode cX12_years 221 = .ok (.invokevirtual 271, 3) := by decide +kernel
theorem dX12_years_224 : decode cX12_years 224 = .ok (.aload_n 0, 1) := by decide +kernel
theorem dX12_years_225 : decode cX12_years 225 = .ok (.aload_n 0, 1) := by decide +kernel
theorem dX12_years_226 : decode cX12_years 226 = .ok (.getfield 9, 3) := by decide +kernel
theorem dX12_years_229 : decode cX12_years 229 = .ok (.iconst 2, 1) := by decide +kernel
theorem dX12_years_230 : decode cX12_years 230 = .ok (.invokevirtual 271, 3) := by decide +kernel
theorem dX12_years_233 : decode cX12_years 233 = .ok (.iconst (-1), 1) := by decide +kernel
theorem dX12_years_234 : decode cX12_years 234 = .ok (.ixor, 1) := by decide +kernel
theorem dX12_years_235 : decode cX12_years 235 = .ok (.iand, 1) := by decide +kernel
theorem dX12_years_236 : decode cX12_years 236 = .ok (.invokestatic 296, 3) := by decide +kernel
theorem dX12_years_239 : decode cX12_years 239 = .ok (.i2l, 1) := by decide +kernel
theorem dX12_years_240 : decode cX12_years 240 = .ok (.invokevirtual 267, 3) := by decide +kernel
theorem dX12_years_243 : decode cX12_years 243 = .ok (.aload_n 0, 1) := by decide +kernel
theorem dX12_years_244 : decode cX12_years 244 = .ok (.aload_n 0, 1) := by decide +kernel
theorem dX12_years_245 : decode cX12_years 245 = .ok (.aload_n 0, 1) := by decide +kernel
theorem dX12_years_246 : decode cX12_years 246 = .ok (.getfield 68, 3) := by decide +kernel
theorem dX12_years_249 : decode cX12_years 249 = .ok (.iconst 4, 1) := by decide +kernel
theorem dX12_years_250 : decode cX12_years 250 = .ok (.invokevirtual 271, 3) := by decide +kernel
theorem dX12_years_253 : decode cX12_years 253 = .ok (.aload_n 0, 1) := by decide +kernel
theorem dX12_years_254 : decode cX12_years 254 = .ok (.aload_n 0, 1) := by decide +kernel
theorem dX12_years_255 : decode cX12_years 255 = .ok (.getfield 9, 3) := by decide +kernel
theorem dX12_years_258 : decode cX12_years 258 = .ok (.iconst 4, 1) := by decide +kernel
theorem dX12_years_259 : decode cX12_years 259 = .ok (.invokevirtual 271, 3) := by decide +kernel
theorem dX12_years_262 : decode cX12_years 262 = .ok (.iconst (-1), 1) := by decide +kernel
theorem dX12_years_263 : decode cX12_years 263 = .ok (.ixor, 1) := by decide +kernel
theorem dX12_years_264 : decode cX12_years 264 = .ok (.iand, 1) := by decide +kernel
theorem dX12_years_265 : decode cX12_years 265 = .ok (.invokestatic 296, 3) := by decide +kernel
theorem dX12_years_268 : decode cX12_years 268 = .ok (.i2l, 1) := by decide +kernel
theorem dX12_years_269 : decode cX12_years 269 = .ok (.invokevirtual 267, 3) := by decide +kernel
theorem dX12_years_272 : decode cX12_years 272 = .ok (.iload_n 3, 1) := by decide +kernel
theorem dX12_years_273 : decode cX12_years 273 = .ok (.ireturn, 1) := by decide +kernel
theorem dX11_keep_0 : decode cX11_keep 0 = .ok (.iload_n 1, 1) := by decide +kernel
theorem dX11_keep_1 : decode cX11_keep 1 = .ok (.ifCond .lt 8, 3) := by decide +kernel
theorem dX11_keep_4 : decode cX11_keep 4 = .ok (.iload_n 1, 1) := by decide +kernel
theorem dX11_keep_5 : decode cX11_keep 5 = .ok (.iconst 2, 1) := by decide +kernel
theorem dX11_keep_6 : decode cX11_keep 6 = .ok (.if_icmp .lt 5, 3) := by decide +kernel
theorem dX11_keep_9 : decode cX11_keep 9 = .ok (.iconst 0, 1) := by decide +kernel
theorem dX11_keep_10 : decode cX11_keep 10 = .ok (.ireturn, 1) := by decide +kernel
theorem dX11_keep_11 : decode cX11_keep 11 = .ok (.aload_n 0, 1) := by decide +kernel
theorem dX11_keep_12 : decode cX11_keep 12 = .ok (.getfield 88, 3) := by decide +kernel
theorem dX11_keep_15 : decode cX11_keep 15 = .ok (.iload_n 1, 1) := by decide +kernel
theorem dX11_keep_16 : decode cX11_keep 16 = .ok (.aaload, 1) := by decide +kernel
theorem dX11_keep_17 : decode cX11_keep 17 = .ok (.aload_n 0, 1) := by decide +kernel
theorem dX11_keep_18 : decode cX11_keep 18 = .ok (.getfield 65, 3) := by decide +kernel
theorem dX11_keep_21 : decode cX11_keep 21 = .ok (.invokevirtual 297, 3) := by decide +kernel
theorem dX11_keep_24 : decode cX11_keep 24 = .ok (.aload_n 0, 1) := by decide +kernel
theorem dX11_keep_25 : decode cX11_keep 25 = .ok (.getfield 92, 3) := by decide +kernel
theorem dX11_keep_28 : decode cX11_keep 28 = .ok (.iload_n 1, 1) := by decide +kernel
theorem dX11_keep_29 : decode cX11_keep 29 = .ok (.iconst 1, 1) := by decide +kernel
theorem dX11_keep_30 : decode cX11_keep 30 = .ok (.bastore, 1) := by decide +kernel
theorem dX11_keep_31 : decode cX11_keep 31 = .ok (.iconst 1, 1) := by decide +kernel
theorem dX11_keep_32 : decode cX11_keep 32 = .ok (.ireturn, 1) := by decide +kernel
theorem dX12_keep_0 : decode cX12_keep 0 = .ok (.aload_n 0, 1) := by decide +kernel
theorem dX12_keep_1 : decode cX12_keep 1 = .ok (.iconst 0, 1) := by decide +kernel
theorem dX12_keep_2 : decode cX12_keep 2 = .ok (.putfield 95, 3) := by decide +kernel
theorem dX12_keep_5 : decode cX12_keep 5 = .ok (.iload_n 1, 1) := by decide +kernel
theorem dX12_keep_6 : decode cX12_keep 6 = .ok (.iconst 0, 1) := by decide +kernel
theorem dX12_keep_7 : decode cX12_keep 7 = .ok (.iconst 1, 1) := by decide +kernel
theorem dX12_keep_8 : decode cX12_keep 8 = .ok (.invokestatic 104, 3) := by decide +kernel
theorem dX12_keep_11 : decode cX12_keep 11 = .ok (.ifCond .ne 5, 3) := by decide +kernel
theorem dX12_keep_14 : decode cX12_keep 14 = .ok (.iconst 0, 1) := by decide +kernel
theorem dX12_keep_15 : decode cX12_keep 15 = .ok (.ireturn, 1) := by decide +kernel
theorem dX12_keep_16 : decode cX12_keep 16 = .ok (.aload_n 0, 1) := by decide +kernel
theorem dX12_keep_17 : decode cX12_keep 17 = .ok (.getfield 89, 3) := by decide +kernel
theorem dX12_keep_20 : decode cX12_keep 20 = .ok (.iload_n 1, 1) := by decide +kernel
theorem dX12_keep_21 : decode cX12_keep 21 = .ok (.iconst 1, 1) := by decide +kernel
theorem dX12_keep_22 : decode cX12_keep 22 = .ok (.bastore, 1) := by decide +kernel
theorem dX12_keep_23 : decode cX12_keep 23 = .ok (.aload_n 0, 1) := by decide +kernel
theorem dX12_keep_24 : decode cX12_keep 24 = .ok (.getfield 92, 3) := by decide +kernel
theorem dX12_keep_27 : decode cX12_keep 27 = .ok (.iload_n 1, 1) := by decide +kernel
theorem dX12_keep_28 : decode cX12_keep 28 = .ok (.aload_n 0, 1) := by decide +kernel
theorem dX12_keep_29 : decode cX12_keep 29 = .ok (.getfield 178, 3) := by decide +kernel
theorem dX12_keep_32 : decode cX12_keep 32 = .ok (.iastore, 1) := by decide +kernel
theorem dX12_keep_33 : decode cX12_keep 33 = .ok (.aload_n 0, 1) := by decide +kernel
theorem dX12_keep_34 : decode cX12_keep 34 = .ok (.getfield 9, 3) := by decide +kernel
theorem dX12_keep_37 : decode cX12_keep 37 = .ok (.aload_n 0, 1) := by decide +kernel
theorem dX12_keep_38 : decode cX12_keep 38 = .ok (.getfield 86, 3) := by decide +kernel
theorem dX12_keep_41 : decode cX12_keep 41 = .ok (.bipush 27, 2) := by decide +kernel
theorem dX12_keep_43 : decode cX12_keep 43 = .ok (.iload_n 1, 1) := by decide +kernel
theorem dX12_keep_44 : decode cX12_keep 44 = .ok (.imul, 1) := by decide +kernel
theorem dX12_keep_45 : decode cX12_keep 45 = .ok (.invokestatic 242, 3) := by decide +kernel
theorem dX12_keep_48 : decode cX12_keep 48 = .ok (.iconst 1, 1) := by decide +kernel
theorem dX12_keep_49 : decode cX12_keep 49 = .ok (.ireturn, 1) := by decide +kernel
theorem dX11_again_0 : decode cX11_again 0 = .ok (.iload_n 1, 1) := by decide +kernel
theorem dX11_again_1 : decode cX11_again 1 = .ok (.ifCond .lt 17, 3) := by decide +kernel
theorem dX11_again_4 : decode cX11_again 4 = .ok (.iload_n 1, 1) := by decide +kernel
theorem dX11_again_5 : decode cX11_again 5 = .ok (.iconst 2, 1) := by decide +kernel
theorem dX11_again_6 : decode cX11_again 6 = .ok (.if_icmp .ge 12, 3) := by decide +kernel
theorem dX11_again_9 : decode cX11_again 9 = .ok (.aload_n 0, 1) := by decide +kernel
theorem dX11_again_10 : decode cX11_again 10 = .ok (.getfield 92, 3) := by decide +kernel
theorem dX11_again_13 : decode cX11_again 13 = .ok (.iload_n 1, 1) := by decide +kernel
theorem dX11_again_14 : decode cX11_again 14 = .ok (.baload, 1) := by decide +kernel
theorem dX11_again_15 : decode cX11_again 15 = .ok (.ifCond .ne 5, 3) := by decide +kernel
theorem dX11_again_18 : decode cX11_again 18 = .ok (.iconst 0, 1) := by decide +kernel
theorem dX11_again_19 : decode cX11_again 19 = .ok (.ireturn, 1) := by decide +kernel
theorem dX11_again_20 : decode cX11_again 20 = .ok (.aload_n 0, 1) := by decide +kernel
theorem dX11_again_21 : decode cX11_again 21 = .ok (.getfield 65, 3) := by decide +kernel
theorem dX11_again_24 : decode cX11_again 24 = .ok (.aload_n 0, 1) := by decide +kernel
theorem dX11_again_25 : decode cX11_again 25 = .ok (.getfield 88, 3) := by decide +kernel
theorem dX11_again_28 : decode cX11_again 28 = .ok (.iload_n 1, 1) := by decide +kernel
theorem dX11_again_29 : decode cX11_again 29 = .ok (.aaload, 1) := by decide +kernel
theorem dX11_again_30 : decode cX11_again 30 = .ok (.invokevirtual 297, 3) := by decide +kernel
theorem dX11_again_33 : decode cX11_again 33 = .ok (.aload_n 0, 1) := by decide +kernel
theorem dX11_again_34 : decode cX11_again 34 = .ok (.getfield 75, 3) := by decide +kernel
theorem dX11_again_37 : decode cX11_again 37 = .ok (.invokevirtual 402, 3) := by decide +kernel
theorem dX11_again_40 : decode cX11_again 40 = .ok (.iconst 1, 1) := by decide +kernel
theorem dX11_again_41 : decode cX11_again 41 = .ok (.ireturn, 1) := by decide +kernel
theorem dX12_again_0 : decode cX12_again 0 = .ok (.aload_n 0, 1) := by decide +kernel
theorem dX12_again_1 : decode cX12_again 1 = .ok (.iconst 0, 1) := by decide +kernel
theorem dX12_again_2 : decode cX12_again 2 = .ok (.putfield 95, 3) := by decide +kernel
theorem dX12_again_5 : decode cX12_again 5 = .ok (.iload_n 1, 1) := by decide +kernel
theorem dX12_again_6 : decode cX12_again 6 = .ok (.iconst 0, 1) := by decide +kernel
theorem dX12_again_7 : decode cX12_again 7 = .ok (.iconst 1, 1) := by decide +kernel
theorem dX12_again_8 : decode cX12_again 8 = .ok (.invokestatic 104, 3) := by decide +kernel
theorem dX12_again_11 : decode cX12_again 11 = .ok (.ifCond .eq 25, 3) := by decide +kernel
theorem dX12_again_14 : decode cX12_again 14 = .ok (.aload_n 0, 1) := by decide +kernel
theorem dX12_again_15 : decode cX12_again 15 = .ok (.getfield 89, 3) := by decide +kernel
theorem dX12_again_18 : decode cX12_again 18 = .ok (.iload_n 1, 1) := by decide +kernel
theorem dX12_again_19 : decode cX12_again 19 = .ok (.baload, 1) := by decide +kernel
theorem dX12_again_20 : decode cX12_again 20 = .ok (.ifCond .eq 16, 3) := by decide +kernel
theorem dX12_again_23 : decode cX12_again 23 = .ok (.aload_n 0, 1) := by decide +kernel
theorem dX12_again_24 : decode cX12_again 24 = .ok (.getfield 92, 3) := by decide +kernel
theorem dX12_again_27 : decode cX12_again 27 = .ok (.iload_n 1, 1) := by decide +kernel
theorem dX12_again_28 : decode cX12_again 28 = .ok (.iaload, 1) := by decide +kernel
theorem dX12_again_29 : decode cX12_again 29 = .ok (.aload_n 0, 1) := by decide +kernel
theorem dX12_again_30 : decode cX12_again 30 = .ok (.getfield 178, 3) := by decide +kernel
theorem dX12_again_33 : decode cX12_again 33 = .ok (.if_icmp .eq 5, 3) := by decide +kernel
theorem dX12_again_36 : decode cX12_again 36 = .ok (.iconst 0, 1) := by decide +kernel
theorem dX12_again_37 : decode cX12_again 37 = .ok (.ireturn, 1) := by decide +kernel
theorem dX12_again_38 : decode cX12_again 38 = .ok (.iconst 0, 1) := by decide +kernel
theorem dX12_again_39 : decode cX12_again 39 = .ok (.istore_n 2, 1) := by decide +kernel
theorem dX12_again_40 : decode cX12_again 40 = .ok (.iload_n 2, 1) := by decide +kernel
theorem dX12_again_41 : decode cX12_again 41 = .ok (.bipush 27, 2) := by decide +kernel
theorem dX12_again_43 : decode cX12_again 43 = .ok (.if_icmp .ge 26, 3) := by decide +kernel
theorem dX12_again_46 : decode cX12_again 46 = .ok (.aload_n 0, 1) := by decide +kernel
theorem dX12_again_47 : decode cX12_again 47 = .ok (.getfield 9, 3) := by decide +kernel
theorem dX12_again_50 : decode cX12_again 50 = .ok (.iload_n 2, 1) := by decide +kernel
theorem dX12_again_51 : decode cX12_again 51 = .ok (.aload_n 0, 1) := by decide +kernel
theorem dX12_again_52 : decode cX12_again 52 = .ok (.getfield 86, 3) := by decide +kernel
theorem dX12_again_55 : decode cX12_again 55 = .ok (.bipush 27, 2) := by decide +kernel
theorem dX12_again_57 : decode cX12_again 57 = .ok (.iload_n 1, 1) := by decide +kernel
theorem dX12_again_58 : decode cX12_again 58 = .ok (.imul, 1) := by decide +kernel
theorem dX12_again_59 : decode cX12_again 59 = .ok (.iload_n 2, 1) := by decide +kernel
theorem dX12_again_60 : decode cX12_again 60 = .ok (.iadd, 1) := by decide +kernel
theorem dX12_again_61 : decode cX12_again 61 = .ok (.iaload, 1) := by decide +kernel
theorem dX12_again_62 : decode cX12_again 62 = .ok (.iastore, 1) := by decide +kernel
theorem dX12_again_63 : decode cX12_again 63 = .ok (.iinc 2 1, 3) := by decide +kernel
theorem dX12_again_66 : decode cX12_again 66 = .ok (.goto (-26), 3) := by decide +kernel
theorem dX12_again_69 : decode cX12_again 69 = .ok (.aload_n 0, 1) := by decide +kernel
theorem dX12_again_70 : decode cX12_again 70 = .ok (.iconst 0, 1) := by decide +kernel
theorem dX12_again_71 : decode cX12_again 71 = .ok (.putfield 175, 3) := by decide +kernel
theorem dX12_again_74 : decode cX12_again 74 = .ok (.iconst 1, 1) := by decide +kernel
theorem dX12_again_75 : decode cX12_again 75 = .ok (.ireturn, 1) := by decide +kernel
theorem dX11_count_0 : decode cX11_count 0 = .ok (.iload_n 1, 1) := by decide +kernel
theorem dX11_count_1 : decode cX11_count 1 = .ok (.tableswitch 186 0 13 #[71, 79, 87, 95, 100, 109, 118, 127, 136, 145, 154, 162, 170, 178], 71) := by decide +kernel
theorem dX11_count_72 : decode cX11_count 72 = .ok (.aload_n 0, 1) := by decide +kernel
theorem dX11_count_73 : decode cX11_count 73 = .ok (.getfield 26, 3) := by decide +kernel
theorem dX11_count_76 : decode cX11_count 76 = .ok (.getfield 119, 3) := by decide +kernel
theorem dX11_count_79 : decode cX11_count 79 = .ok (.ireturn, 1) := by decide +kernel
theorem dX11_count_80 : decode cX11_count 80 = .ok (.aload_n 0, 1) := by decide +kernel
theorem dX11_count_81 : decode cX11_count 81 = .ok (.getfield 35, 3) := by decide +kernel
theorem dX11_count_84 : decode cX11_count 84 = .ok (.getfield 134, 3) := by decide +kernel
theorem dX11_count_87 : decode cX11_count 87 = .ok (.ireturn, 1) := by decide +kernel
theorem dX11_count_88 : decode cX11_count 88 = .ok (.aload_n 0, 1) := by decide +kernel
theorem dX11_count_89 : decode cX11_count 89 = .ok (.getfield 65, 3) := by decide +kernel
theorem dX11_count_92 : decode cX11_count 92 = .ok (.getfield 206, 3) := by decide +kernel
theorem dX11_count_95 : decode cX11_count 95 = .ok (.ireturn, 1) := by decide +kernel
theorem dX11_count_96 : decode cX11_count 96 = .ok (.aload_n 0, 1) := by decide +kernel
theorem dX11_count_97 : decode cX11_count 97 = .ok (.getfield 100, 3) := by decide +kernel
theorem dX11_count_100 : decode cX11_count 100 = .ok (.ireturn, 1) := by decide +kernel
theorem dX11_count_101 : decode cX11_count 101 = .ok (.aload_n 0, 1) := by decide +kernel
theorem dX11_count_102 : decode cX11_count 102 = .ok (.getfield 65, 3) := by decide +kernel
theorem dX11_count_105 : decode cX11_count 105 = .ok (.iconst 0, 1) := by decide +kernel
theorem dX11_count_106 : decode cX11_count 106 = .ok (.invokevirtual 300, 3) := by decide +kernel
theorem dX11_count_109 : decode cX11_count 109 = .ok (.ireturn, 1) := by decide +kernel
theorem dX11_count_110 : decode cX11_count 110 = .ok (.aload_n 0, 1) := by decide +kernel
theorem dX11_count_111 : decode cX11_count 111 = .ok (.getfield 65, 3) := by decide +kernel
theorem dX11_count_114 : decode cX11_count 114 = .ok (.iconst 1, 1) := by decide +kernel
theorem dX11_count_115 : decode cX11_count 115 = .ok (.invokevirtual 300, 3) := by decide +kernel
theorem dX11_count_118 : decode cX11_count 118 = .ok (.ireturn, 1) := by decide +kernel
theorem dX11_count_119 : decode cX11_count 119 = .ok (.aload_n 0, 1) := by decide +kernel
theorem dX11_count_120 : decode cX11_count 120 = .ok (.getfield 65, 3) := by decide +kernel
theorem dX11_count_123 : decode cX11_count 123 = .ok (.iconst 2, 1) := by decide +kernel
theorem dX11_count_124 : decode cX11_count 124 = .ok (.invokevirtual 300, 3) := by decide +kernel
theorem dX11_count_127 : decode cX11_count 127 = .ok (.ireturn, 1) := by decide +kernel
theorem dX11_count_128 : decode cX11_count 128 = .ok (.aload_n 0, 1) := by decide +kernel
theorem dX11_count_129 : decode cX11_count 129 = .ok (.getfield 65, 3) := by decide +kernel
theorem dX11_count_132 : decode cX11_count 132 = .ok (.iconst 3, 1) := by decide +kernel
theorem dX11_count_133 : decode cX11_count 133 = .ok (.invokevirtual 300, 3) := by decide +kernel
theorem dX11_count_136 : decode cX11_count 136 = .ok (.ireturn, 1) := by decide +kernel
theorem dX11_count_137 : decode cX11_count 137 = .ok (.aload_n 0, 1) := by decide +kernel
theorem dX11_count_138 : decode cX11_count 138 = .ok (.getfield 65, 3) := by decide +kernel
theorem dX11_count_141 : decode cX11_count 141 = .ok (.iconst 4, 1) := by decide +kernel
theorem dX11_count_142 : decode cX11_count 142 = .ok (.invokevirtual 300, 3) := by decide +kernel
theorem dX11_count_145 : decode cX11_count 145 = .ok (.ireturn, 1) := by decide +kernel
theorem dX11_count_146 : decode cX11_count 146 = .ok (.aload_n 0, 1) := by decide +kernel
theorem dX11_count_147 : decode cX11_count 147 = .ok (.getfield 65, 3) := by decide +kernel
theorem dX11_count_150 : decode cX11_count 150 = .ok (.iconst 5, 1) := by decide +kernel
theorem dX11_count_151 : decode cX11_count 151 = .ok (.invokevirtual 300, 3) := by decide +kernel
theorem dX11_count_154 : decode cX11_count 154 = .ok (.ireturn, 1) := by decide +kernel
theorem dX11_count_155 : decode cX11_count 155 = .ok (.aload_n 0, 1) := by decide +kernel
theorem dX11_count_156 : decode cX11_count 156 = .ok (.getfield 26, 3) := by decide +kernel
theorem dX11_count_159 : decode cX11_count 159 = .ok (.invokevirtual 405, 3) := by decide +kernel
theorem dX11_count_162 : decode cX11_count 162 = .ok (.ireturn, 1) := by decide +kernel
theorem dX11_count_163 : decode cX11_count 163 = .ok (.aload_n 0, 1) := by decide +kernel
theorem dX11_count_164 : decode cX11_count 164 = .ok (.getfield 75, 3) := by decide +kernel
theorem dX11_count_167 : decode cX11_count 167 = .ok (.getfield 256, 3) := by decide +kernel
theorem dX11_count_170 : decode cX11_count 170 = .ok (.ireturn, 1) := by decide +kernel
theorem dX11_count_171 : decode cX11_count 171 = .ok (.aload_n 0, 1) := by decide +kernel
theorem dX11_count_172 : decode cX11_count 172 = .ok (.getfield 19, 3) := by decide +kernel
theorem dX11_count_175 : decode cX11_count 175 = .ok (.getfield 408, 3) := by decide +kernel
theorem dX11_count_178 : decode cX11_count 178 = .ok (.ireturn, 1) := by decide +kernel
theorem dX11_count_179 : decode cX11_count 179 = .ok (.aload_n 0, 1) := by decide +kernel
theorem dX11_count_180 : decode cX11_count 180 = .ok (.getfield 10, 3) := by decide +kernel
theorem dX11_count_183 : decode cX11_count 183 = .ok (.getfield 409, 3) := by decide +kernel
theorem dX11_count_186 : decode cX11_count 186 = .ok (.ireturn, 1) := by decide +kernel
theorem dX11_count_187 : decode cX11_count 187 = .ok (.iconst (-1), 1) := by decide +kernel
theorem dX11_count_188 : decode cX11_count 188 = .ok (.ireturn, 1) := by decide +kernel
theorem dX12_count_0 : decode cX12_count 0 = .ok (.aload_n 0, 1) := by decide +kernel
theorem dX12_count_1 : decode cX12_count 1 = .ok (.iconst 0, 1) := by decide +kernel
theorem dX12_count_2 : decode cX12_count 2 = .ok (.putfield 95, 3) := by decide +kernel
theorem dX12_count_5 : decode cX12_count 5 = .ok (.iload_n 1, 1) := by decide +kernel
theorem dX12_count_6 : decode cX12_count 6 = .ok (.tableswitch 125 0 13 #[70, 75, 80, 88, 93, 93, 93, 93, 93, 93, 105, 110, 115, 120], 70) := by decide +kernel
theorem dX12_count_76 : decode cX12_count 76 = .ok (.aload_n 0, 1) := by decide +kernel
theorem dX12_count_77 : decode cX12_count 77 = .ok (.getfield 101, 3) := by decide +kernel
theorem dX12_count_80 : decode cX12_count 80 = .ok (.ireturn, 1) := by decide +kernel
theorem dX12_count_81 : decode cX12_count 81 = .ok (.aload_n 0, 1) := by decide +kernel
theorem dX12_count_82 : decode cX12_count 82 = .ok (.getfield 181, 3) := by decide +kernel
theorem dX12_count_85 : decode cX12_count 85 = .ok (.ireturn, 1) := by decide +kernel
theorem dX12_count_86 : decode cX12_count 86 = .ok (.aload_n 0, 1) := by decide +kernel
theorem dX12_count_87 : decode cX12_count 87 = .ok (.getfield 9, 3) := by decide +kernel
theorem dX12_count_90 : decode cX12_count 90 = .ok (.bipush 26, 2) := by decide +kernel
theorem dX12_count_92 : decode cX12_count 92 = .ok (.iaload, 1) := by decide +kernel
theorem dX12_count_93 : decode cX12_count 93 = .ok (.ireturn, 1) := by decide +kernel
theorem dX12_count_94 : decode cX12_count 94 = .ok (.aload_n 0, 1) := by decide +kernel
theorem dX12_count_95 : decode cX12_count 95 = .ok (.getfield 41, 3) := by decide +kernel
theorem dX12_count_98 : decode cX12_count 98 = .ok (.ireturn, 1) := by decide +kernel
theorem dX12_count_99 : decode cX12_count 99 = .ok (.aload_n 0, 1) := by decide +kernel
theorem dX12_count_100 : decode cX12_count 100 = .ok (.aload_n 0, 1) := by decide +kernel
theorem dX12_count_101 : decode cX12_count 101 = .ok (.getfield 9, 3) := by decide +kernel
theorem dX12_count_104 : decode cX12_count 104 = .ok (.iload_n 1, 1) := by decide +kernel
theorem dX12_count_105 : decode cX12_count 105 = .ok (.iconst 4, 1) := by decide +kernel
theorem dX12_count_106 : decode cX12_count 106 = .ok (.isub, 1) := by decide +kernel
theorem dX12_count_107 : decode cX12_count 107 = .ok (.invokevirtual 271, 3) := by decide +kernel
theorem dX12_count_110 : decode cX12_count 110 = .ok (.ireturn, 1) := by decide +kernel
theorem dX12_count_111 : decode cX12_count 111 = .ok (.aload_n 0, 1) := by decide +kernel
theorem dX12_count_112 : decode cX12_count 112 = .ok (.invokevirtual 165, 3) := by decide +kernel
theorem dX12_count_115 : decode cX12_count 115 = .ok (.ireturn, 1) := by decide +kernel
theorem dX12_count_116 : decode cX12_count 116 = .ok (.aload_n 0, 1) := by decide +kernel
theorem dX12_count_117 : decode cX12_count 117 = .ok (.getfield 175, 3) := by decide +kernel
theorem dX12_count_120 : decode cX12_count 120 = .ok (.ireturn, 1) := by decide +kernel
theorem dX12_count_121 : decode cX12_count 121 = .ok (.aload_n 0, 1) := by decide +kernel
theorem dX12_count_122 : decode cX12_count 122 = .ok (.getfield 98, 3) := by decide +kernel
theorem dX12_count_125 : decode cX12_count 125 = .ok (.ireturn, 1) := by decide +kernel
theorem dX12_count_126 : decode cX12_count 126 = .ok (.aload_n 0, 1) := by decide +kernel
theorem dX12_count_127 : decode cX12_count 127 = .ok (.getfield 108, 3) := by decide +kernel
theorem dX12_count_130 : decode cX12_count 130 = .ok (.ireturn, 1) := by decide +kernel
theorem dX12_count_131 : decode cX12_count 131 = .ok (.iconst (-1), 1) := by decide +kernel
theorem dX12_count_132 : decode cX12_count 132 = .ok (.ireturn, 1) := by decide +kernel
theorem dX12_row_0 : decode cX12_row 0 = .ok (.aload_n 0, 1) := by decide +kernel
theorem dX12_row_1 : decode cX12_row 1 = .ok (.iconst 0, 1) := by decide +kernel
theorem dX12_row_2 : decode cX12_row 2 = .ok (.putfield 95, 3) := by decide +kernel
theorem dX12_row_5 : decode cX12_row 5 = .ok (.iload_n 1, 1) := by decide +kernel
theorem dX12_row_6 : decode cX12_row 6 = .ok (.iconst 0, 1) := by decide +kernel
theorem dX12_row_7 : decode cX12_row 7 = .ok (.aload_n 0, 1) := by decide +kernel
theorem dX12_row_8 : decode cX12_row 8 = .ok (.getfield 98, 3) := by decide +kernel
theorem dX12_row_11 : decode cX12_row 11 = .ok (.iconst 1, 1) := by decide +kernel
theorem dX12_row_12 : decode cX12_row 12 = .ok (.isub, 1) := by decide +kernel
theorem dX12_row_13 : decode cX12_row 13 = .ok (.invokestatic 104, 3) := by decide +kernel
theorem dX12_row_16 : decode cX12_row 16 = .ok (.ifCond .eq 12, 3) := by decide +kernel
theorem dX12_row_19 : decode cX12_row 19 = .ok (.aload_n 0, 1) := by decide +kernel
theorem dX12_row_20 : decode cX12_row 20 = .ok (.getfield 49, 3) := by decide +kernel
theorem dX12_row_23 : decode cX12_row 23 = .ok (.iload_n 1, 1) := by decide +kernel
theorem dX12_row_24 : decode cX12_row 24 = .ok (.laload, 1) := by decide +kernel
theorem dX12_row_25 : decode cX12_row 25 = .ok (.goto 8, 3) := by decide +kernel
theorem dX12_row_28 : decode cX12_row 28 = .ok (.aload_n 0, 1) := by decide +kernel
theorem dX12_row_29 : decode cX12_row 29 = .ok (.invokevirtual 228, 3) := by decide +kernel
theorem dX12_row_32 : decode cX12_row 32 = .ok (.i2l, 1) := by decide +kernel
theorem dX12_row_33 : decode cX12_row 33 = .ok (.lreturn, 1) := by decide +kernel
