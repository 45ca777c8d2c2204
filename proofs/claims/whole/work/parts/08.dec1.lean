theorem dX11_rule_16 : decode cX11_rule 16 = .ok (.invokevirtual 116, 3) := by decide +kernel
theorem dX11_rule_19 : decode cX11_rule 19 = .ok (.iload_n 1, 1) := by decide +kernel
theorem dX11_rule_20 : decode cX11_rule 20 = .ok (.ireturn, 1) := by decide +kernel
theorem dX12_letterOf_0 : decode cX12_letterOf 0 = .ok (.iload_n 0, 1) := by decide +kernel
theorem dX12_letterOf_1 : decode cX12_letterOf 1 = .ok (.bipush 98, 2) := by decide +kernel
theorem dX12_letterOf_3 : decode cX12_letterOf 3 = .ok (.if_icmp .ne 7, 3) := by decide +kernel
theorem dX12_letterOf_6 : decode cX12_letterOf 6 = .ok (.iconst 0, 1) := by decide +kernel
theorem dX12_letterOf_7 : decode cX12_letterOf 7 = .ok (.goto 54, 3) := by decide +kernel
theorem dX12_letterOf_10 : decode cX12_letterOf 10 = .ok (.iload_n 0, 1) := by decide +kernel
theorem dX12_letterOf_11 : decode cX12_letterOf 11 = .ok (.bipush 119, 2) := by decide +kernel
theorem dX12_letterOf_13 : decode cX12_letterOf 13 = .ok (.if_icmp .ne 7, 3) := by decide +kernel
theorem dX12_letterOf_16 : decode cX12_letterOf 16 = .ok (.iconst 1, 1) := by decide +kernel
theorem dX12_letterOf_17 : decode cX12_letterOf 17 = .ok (.goto 44, 3) := by decide +kernel
theorem dX12_letterOf_20 : decode cX12_letterOf 20 = .ok (.iload_n 0, 1) := by decide +kernel
theorem dX12_letterOf_21 : decode cX12_letterOf 21 = .ok (.bipush 100, 2) := by decide +kernel
theorem dX12_letterOf_23 : decode cX12_letterOf 23 = .ok (.if_icmp .ne 7, 3) := by decide +kernel
theorem dX12_letterOf_26 : decode cX12_letterOf 26 = .ok (.iconst 2, 1) := by decide +kernel
theorem dX12_letterOf_27 : decode cX12_letterOf 27 = .ok (.goto 34, 3) := by decide +kernel
theorem dX12_letterOf_30 : decode cX12_letterOf 30 = .ok (.iload_n 0, 1) := by decide +kernel
theorem dX12_letterOf_31 : decode cX12_letterOf 31 = .ok (.bipush 110, 2) := by decide +kernel
theorem dX12_letterOf_33 : decode cX12_letterOf 33 = .ok (.if_icmp .ne 7, 3) := by decide +kernel
theorem dX12_letterOf_36 : decode cX12_letterOf 36 = .ok (.iconst 3, 1) := by decide +kernel
theorem dX12_letterOf_37 : decode cX12_letterOf 37 = .ok (.goto 24, 3) := by decide +kernel
theorem dX12_letterOf_40 : decode cX12_letterOf 40 = .ok (.iload_n 0, 1) := by decide +kernel
theorem dX12_letterOf_41 : decode cX12_letterOf 41 = .ok (.bipush 102, 2) := by decide +kernel
theorem dX12_letterOf_43 : decode cX12_letterOf 43 = .ok (.if_icmp .ne 7, 3) := by decide +kernel
theorem dX12_letterOf_46 : decode cX12_letterOf 46 = .ok (.iconst 4, 1) := by decide +kernel
theorem dX12_letterOf_47 : decode cX12_letterOf 47 = .ok (.goto 14, 3) := by decide +kernel
theorem dX12_letterOf_50 : decode cX12_letterOf 50 = .ok (.iload_n 0, 1) := by decide +kernel
theorem dX12_letterOf_51 : decode cX12_letterOf 51 = .ok (.bipush 105, 2) := by decide +kernel
theorem dX12_letterOf_53 : decode cX12_letterOf 53 = .ok (.if_icmp .ne 7, 3) := by decide +kernel
theorem dX12_letterOf_56 : decode cX12_letterOf 56 = .ok (.iconst 5, 1) := by decide +kernel
theorem dX12_letterOf_57 : decode cX12_letterOf 57 = .ok (.goto 4, 3) := by decide +kernel
theorem dX12_letterOf_60 : decode cX12_letterOf 60 = .ok (.iconst (-1), 1) := by decide +kernel
theorem dX12_letterOf_61 : decode cX12_letterOf 61 = .ok (.ireturn, 1) := by decide +kernel
theorem dX12_product_0 : decode cX12_product 0 = .ok (.aload_n 0, 1) := by decide +kernel
theorem dX12_product_1 : decode cX12_product 1 = .ok (.iload_n 1, 1) := by decide +kernel
theorem dX12_product_2 : decode cX12_product 2 = .ok (.invokevirtual 196, 3) := by decide +kernel
theorem dX12_product_5 : decode cX12_product 5 = .ok (.istore_n 2, 1) := by decide +kernel
theorem dX12_product_6 : decode cX12_product 6 = .ok (.aload_n 0, 1) := by decide +kernel
theorem dX12_product_7 : decode cX12_product 7 = .ok (.invokevirtual 130, 3) := by decide +kernel
theorem dX12_product_10 : decode cX12_product 10 = .ok (.ifCond .eq 81, 3) := by decide +kernel
theorem dX12_product_13 : decode cX12_product 13 = .ok (.aload_n 0, 1) := by decide +kernel
theorem dX12_product_14 : decode cX12_product 14 = .ok (.invokevirtual 134, 3) := by decide +kernel
theorem dX12_product_17 : decode cX12_product 17 = .ok (.bipush 42, 2) := by decide +kernel
theorem dX12_product_19 : decode cX12_product 19 = .ok (.if_icmp .eq 12, 3) := by decide +kernel
theorem dX12_product_22 : decode cX12_product 22 = .ok (.aload_n 0, 1) := by decide +kernel
theorem dX12_product_23 : decode cX12_product 23 = .ok (.invokevirtual 134, 3) := by decide +kernel
theorem dX12_product_26 : decode cX12_product 26 = .ok (.bipush 47, 2) := by decide +kernel
theorem dX12_product_28 : decode cX12_product 28 = .ok (.if_icmp .ne 63, 3) := by decide +kernel
theorem dX12_product_31 : decode cX12_product 31 = .ok (.aload_n 0, 1) := by decide +kernel
theorem dX12_product_32 : decode cX12_product 32 = .ok (.invokevirtual 134, 3) := by decide +kernel
theorem dX12_product_35 : decode cX12_product 35 = .ok (.bipush 42, 2) := by decide +kernel
theorem dX12_product_37 : decode cX12_product 37 = .ok (.if_icmp .ne 7, 3) := by decide +kernel
theorem dX12_product_40 : decode cX12_product 40 = .ok (.iconst 1, 1) := by decide +kernel
theorem dX12_product_41 : decode cX12_product 41 = .ok (.goto 4, 3) := by decide +kernel
theorem dX12_product_44 : decode cX12_product 44 = .ok (.iconst 0, 1) := by decide +kernel
theorem dX12_product_45 : decode cX12_product 45 = .ok (.istore_n 3, 1) := by decide +kernel
theorem dX12_product_46 : decode cX12_product 46 = .ok (.aload_n 0, 1) := by decide +kernel
theorem dX12_product_47 : decode cX12_product 47 = .ok (.dup, 1) := by decide +kernel
theorem dX12_product_48 : decode cX12_product 48 = .ok (.getfield 120, 3) := by decide +kernel
theorem dX12_product_51 : decode cX12_product 51 = .ok (.iconst 1, 1) := by decide +kernel
theorem dX12_product_52 : decode cX12_product 52 = .ok (.iadd, 1) := by decide +kernel
theorem dX12_product_53 : decode cX12_product 53 = .ok (.putfield 120, 3) := by decide +kernel
theorem dX12_product_56 : decode cX12_product 56 = .ok (.aload_n 0, 1) := by decide +kernel
theorem dX12_product_57 : decode cX12_product 57 = .ok (.iload_n 1, 1) := by decide +kernel
theorem dX12_product_58 : decode cX12_product 58 = .ok (.invokevirtual 196, 3) := by decide +kernel
theorem dX12_product_61 : decode cX12_product 61 = .ok (.istore 4, 2) := by decide +kernel
theorem dX12_product_63 : decode cX12_product 63 = .ok (.iload_n 3, 1) := by decide +kernel
theorem dX12_product_64 : decode cX12_product 64 = .ok (.ifCond .eq 10, 3) := by decide +kernel
theorem dX12_product_67 : decode cX12_product 67 = .ok (.iload_n 2, 1) := by decide +kernel
theorem dX12_product_68 : decode cX12_product 68 = .ok (.iload 4, 2) := by decide +kernel
theorem dX12_product_70 : decode cX12_product 70 = .ok (.imul, 1) := by decide +kernel
theorem dX12_product_71 : decode cX12_product 71 = .ok (.goto 16, 3) := by decide +kernel
theorem dX12_product_74 : decode cX12_product 74 = .ok (.iload 4, 2) := by decide +kernel
theorem dX12_product_76 : decode cX12_product 76 = .ok (.ifCond .ne 7, 3) := by decide +kernel
theorem dX12_product_79 : decode cX12_product 79 = .ok (.iconst 0, 1) := by decide +kernel
theorem dX12_product_80 : decode cX12_product 80 = .ok (.goto 7, 3) := by decide +kernel
theorem dX12_product_83 : decode cX12_product 83 = .ok (.iload_n 2, 1) := by decide +kernel
theorem dX12_product_84 : decode cX12_product 84 = .ok (.iload 4, 2) := by decide +kernel
theorem dX12_product_86 : decode cX12_product 86 = .ok (.idiv, 1) := by decide +kernel
theorem dX12_product_87 : decode cX12_product 87 = .ok (.istore_n 2, 1) := by decide +kernel
theorem dX12_product_88 : decode cX12_product 88 = .ok (.goto (-82), 3) := by decide +kernel
theorem dX12_product_91 : decode cX12_product 91 = .ok (.iload_n 2, 1) := by decide +kernel
theorem dX12_product_92 : decode cX12_product 92 = .ok (.ireturn, 1) := by decide +kernel
theorem dX12_sum_0 : decode cX12_sum 0 = .ok (.aload_n 0, 1) := by decide +kernel
theorem dX12_sum_1 : decode cX12_sum 1 = .ok (.iload_n 1, 1) := by decide +kernel
theorem dX12_sum_2 : decode cX12_sum 2 = .ok (.invokevirtual 193, 3) := by decide +kernel
theorem dX12_sum_5 : decode cX12_sum 5 = .ok (.istore_n 2, 1) := by decide +kernel
theorem dX12_sum_6 : decode cX12_sum 6 = .ok (.aload_n 0, 1) := by decide +kernel
theorem dX12_sum_7 : decode cX12_sum 7 = .ok (.invokevirtual 130, 3) := by decide +kernel
theorem dX12_sum_10 : decode cX12_sum 10 = .ok (.ifCond .eq 72, 3) := by decide +kernel
theorem dX12_sum_13 : decode cX12_sum 13 = .ok (.aload_n 0, 1) := by decide +kernel
theorem dX12_sum_14 : decode cX12_sum 14 = .ok (.invokevirtual 134, 3) := by decide +kernel
theorem dX12_sum_17 : decode cX12_sum 17 = .ok (.bipush 43, 2) := by decide +kernel
theorem dX12_sum_19 : decode cX12_sum 19 = .ok (.if_icmp .eq 12, 3) := by decide +kernel
theorem dX12_sum_22 : decode cX12_sum 22 = .ok (.aload_n 0, 1) := by decide +kernel
theorem dX12_sum_23 : decode cX12_sum 23 = .ok (.invokevirtual 134, 3) := by decide +kernel
theorem dX12_sum_26 : decode cX12_sum 26 = .ok (.bipush 45, 2) := by decide +kernel
theorem dX12_sum_28 : decode cX12_sum 28 = .ok (.if_icmp .ne 54, 3) := by decide +kernel
theorem dX12_sum_31 : decode cX12_sum 31 = .ok (.aload_n 0, 1) := by decide +kernel
theorem dX12_sum_32 : decode cX12_sum 32 = .ok (.invokevirtual 134, 3) := by decide +kernel
theorem dX12_sum_35 : decode cX12_sum 35 = .ok (.bipush 43, 2) := by decide +kernel
theorem dX12_sum_37 : decode cX12_sum 37 = .ok (.if_icmp .ne 7, 3) := by decide +kernel
theorem dX12_sum_40 : decode cX12_sum 40 = .ok (.iconst 1, 1) := by decide +kernel
theorem dX12_sum_41 : decode cX12_sum 41 = .ok (.goto 4, 3) := by decide +kernel
theorem dX12_sum_44 : decode cX12_sum 44 = .ok (.iconst 0, 1) := by decide +kernel
theorem dX12_sum_45 : decode cX12_sum 45 = .ok (.istore_n 3, 1) := by decide +kernel
theorem dX12_sum_46 : decode cX12_sum 46 = .ok (.aload_n 0, 1) := by decide +kernel
theorem dX12_sum_47 : decode cX12_sum 47 = .ok (.dup, 1) := by decide +kernel
theorem dX12_sum_48 : decode cX12_sum 48 = .ok (.getfield 120, 3) := by decide +kernel
theorem dX12_sum_51 : decode cX12_sum 51 = .ok (.iconst 1, 1) := by decide +kernel
theorem dX12_sum_52 : decode cX12_sum 52 = .ok (.iadd, 1) := by decide +kernel
theorem dX12_sum_53 : decode cX12_sum 53 = .ok (.putfield 120, 3) := by decide +kernel
theorem dX12_sum_56 : decode cX12_sum 56 = .ok (.aload_n 0, 1) := by decide +kernel
theorem dX12_sum_57 : decode cX12_sum 57 = .ok (.iload_n 1, 1) := by decide +kernel
theorem dX12_sum_58 : decode cX12_sum 58 = .ok (.invokevirtual 193, 3) := by decide +kernel
theorem dX12_sum_61 : decode cX12_sum 61 = .ok (.istore 4, 2) := by decide +kernel
theorem dX12_sum_63 : decode cX12_sum 63 = .ok (.iload_n 3, 1) := by decide +kernel
theorem dX12_sum_64 : decode cX12_sum 64 = .ok (.ifCond .eq 10, 3) := by decide +kernel
theorem dX12_sum_67 : decode cX12_sum 67 = .ok (.iload_n 2, 1) := by decide +kernel
theorem dX12_sum_68 : decode cX12_sum 68 = .ok (.iload 4, 2) := by decide +kernel
theorem dX12_sum_70 : decode cX12_sum 70 = .ok (.iadd, 1) := by decide +kernel
theorem dX12_sum_71 : decode cX12_sum 71 = .ok (.goto 7, 3) := by decide +kernel
theorem dX12_sum_74 : decode cX12_sum 74 = .ok (.iload_n 2, 1) := by decide +kernel
theorem dX12_sum_75 : decode cX12_sum 75 = .ok (.iload 4, 2) := by decide +kernel
theorem dX12_sum_77 : decode cX12_sum 77 = .ok (.isub, 1) := by decide +kernel
theorem dX12_sum_78 : decode cX12_sum 78 = .ok (.istore_n 2, 1) := by decide +kernel
theorem dX12_sum_79 : decode cX12_sum 79 = .ok (.goto (-73), 3) := by decide +kernel
theorem dX12_sum_82 : decode cX12_sum 82 = .ok (.iload_n 2, 1) := by decide +kernel
theorem dX12_sum_83 : decode cX12_sum 83 = .ok (.ireturn, 1) := by decide +kernel
theorem dX12_held_0 : decode cX12_held 0 = .ok (.aload_n 0, 1) := by decide +kernel
theorem dX12_held_1 : decode cX12_held 1 = .ok (.iload_n 1, 1) := by decide +kernel
theorem dX12_held_2 : decode cX12_held 2 = .ok (.invokevirtual 190, 3) := by decide +kernel
theorem dX12_held_5 : decode cX12_held 5 = .ok (.istore_n 2, 1) := by decide +kernel
theorem dX12_held_6 : decode cX12_held 6 = .ok (.aload_n 0, 1) := by decide +kernel
theorem dX12_held_7 : decode cX12_held 7 = .ok (.bipush 60, 2) := by decide +kernel
theorem dX12_held_9 : decode cX12_held 9 = .ok (.invokevirtual 138, 3) := by decide +kernel
theorem dX12_held_12 : decode cX12_held 12 = .ok (.ifCond .eq 18, 3) := by decide +kernel
theorem dX12_held_15 : decode cX12_held 15 = .ok (.iload_n 2, 1) := by decide +kernel
theorem dX12_held_16 : decode cX12_held 16 = .ok (.aload_n 0, 1) := by decide +kernel
theorem dX12_held_17 : decode cX12_held 17 = .ok (.iload_n 1, 1) := by decide +kernel
theorem dX12_held_18 : decode cX12_held 18 = .ok (.invokevirtual 190, 3) := by decide +kernel
theorem dX12_held_21 : decode cX12_held 21 = .ok (.if_icmp .ge 7, 3) := by decide +kernel
theorem dX12_held_24 : decode cX12_held 24 = .ok (.iconst 1, 1) := by decide +kernel
theorem dX12_held_25 : decode cX12_held 25 = .ok (.goto 4, 3) := by decide +kernel
theorem dX12_held_28 : decode cX12_held 28 = .ok (.iconst 0, 1) := by decide +kernel
theorem dX12_held_29 : decode cX12_held 29 = .ok (.ireturn, 1) := by decide +kernel
theorem dX12_held_30 : decode cX12_held 30 = .ok (.aload_n 0, 1) := by decide +kernel
theorem dX12_held_31 : decode cX12_held 31 = .ok (.bipush 62, 2) := by decide +kernel
theorem dX12_held_33 : decode cX12_held 33 = .ok (.invokevirtual 138, 3) := by decide +kernel
theorem dX12_held_36 : decode cX12_held 36 = .ok (.ifCond .eq 18, 3) := by decide +kernel
theorem dX12_held_39 : decode cX12_held 39 = .ok (.iload_n 2, 1) := by decide +kernel
theorem dX12_held_40 : decode cX12_held 40 = .ok (.aload_n 0, 1) := by decide +kernel
theorem dX12_held_41 : decode cX12_held 41 = .ok (.iload_n 1, 1) := by decide +kernel
theorem dX12_held_42 : decode cX12_held 42 = .ok (.invokevirtual 190, 3) := by decide +kernel
theorem dX12_held_45 : decode cX12_held 45 = .ok (.if_icmp .le 7, 3) := by decide +kernel
theorem dX12_held_48 : decode cX12_held 48 = .ok (.iconst 1, 1) := by decide +kernel
theorem dX12_held_49 : decode cX12_held 49 = .ok (.goto 4, 3) := by decide +kernel
theorem dX12_held_52 : decode cX12_held 52 = .ok (.iconst 0, 1) := by decide +kernel
theorem dX12_held_53 : decode cX12_held 53 = .ok (.ireturn, 1) := by decide +kernel
theorem dX12_held_54 : decode cX12_held 54 = .ok (.aload_n 0, 1) := by decide +kernel
theorem dX12_held_55 : decode cX12_held 55 = .ok (.bipush 61, 2) := by decide +kernel
theorem dX12_held_57 : decode cX12_held 57 = .ok (.invokevirtual 138, 3) := by decide +kernel
theorem dX12_held_60 : decode cX12_held 60 = .ok (.ifCond .eq 18, 3) := by decide +kernel
theorem dX12_held_63 : decode cX12_held 63 = .ok (.iload_n 2, 1) := by decide +kernel
theorem dX12_held_64 : decode cX12_held 64 = .ok (.aload_n 0, 1) := by decide +kernel
theorem dX12_held_65 : decode cX12_held 65 = .ok (.iload_n 1, 1) := by decide +kernel
theorem dX12_held_66 : decode cX12_held 66 = .ok (.invokevirtual 190, 3) := by decide +kernel
theorem dX12_held_69 : decode cX12_held 69 = .ok (.if_icmp .ne 7, 3) := by decide +kernel
theorem dX12_held_72 : decode cX12_held 72 = .ok (.iconst 1, 1) := by decide +kernel
theorem dX12_held_73 : decode cX12_held 73 = .ok (.goto 4, 3) := by decide +kernel
theorem dX12_held_76 : decode cX12_held 76 = .ok (.iconst 0, 1) := by decide +kernel
theorem dX12_held_77 : decode cX12_held 77 = .ok (.ireturn, 1) := by decide +kernel
theorem dX12_held_78 : decode cX12_held 78 = .ok (.iload_n 2, 1) := by decide +kernel
theorem dX12_held_79 : decode cX12_held 79 = .ok (.ireturn, 1) := by decide +kernel
theorem dX12_thing_0 : decode cX12_thing 0 = .ok (.aload_n 0, 1) := by decide +kernel
theorem dX12_thing_1 : decode cX12_thing 1 = .ok (.bipush 45, 2) := by decide +kernel
theorem dX12_thing_3 : decode cX12_thing 3 = .ok (.invokevirtual 138, 3) := by decide +kernel
theorem dX12_thing_6 : decode cX12_thing 6 = .ok (.ifCond .eq 10, 3) := by decide +kernel
theorem dX12_thing_9 : decode cX12_thing 9 = .ok (.aload_n 0, 1) := by decide +kernel
theorem dX12_thing_10 : decode cX12_thing 10 = .ok (.iload_n 1, 1) := by decide +kernel
theorem dX12_thing_11 : decode cX12_thing 11 = .ok (.invokevirtual 196, 3) := by decide +kernel
theorem dX12_thing_14 : decode cX12_thing 14 = .ok (.ineg, 1) := by decide +kernel
theorem dX12_thing_15 : decode cX12_thing 15 = .ok (.ireturn, 1) := by decide +kernel
theorem dX12_thing_16 : decode cX12_thing 16 = .ok (.aload_n 0, 1) := by decide +kernel
theorem dX12_thing_17 : decode cX12_thing 17 = .ok (.invokevirtual 130, 3) := by decide +kernel
theorem dX12_thing_20 : decode cX12_thing 20 = .ok (.ifCond .ne 5, 3) := by decide +kernel
theorem dX12_thing_23 : decode cX12_thing 23 = .ok (.iconst 0, 1) := by decide +kernel
theorem dX12_thing_24 : decode cX12_thing 24 = .ok (.ireturn, 1) := by decide +kernel
theorem dX12_thing_25 : decode cX12_thing 25 = .ok (.aload_n 0, 1) := by decide +kernel
theorem dX12_thing_26 : decode cX12_thing 26 = .ok (.invokevirtual 134, 3) := by decide +kernel
theorem dX12_thing_29 : decode cX12_thing 29 = .ok (.istore_n 2, 1) := by decide +kernel
theorem dX12_thing_30 : decode cX12_thing 30 = .ok (.iload_n 2, 1) := by decide +kernel
theorem dX12_thing_31 : decode cX12_thing 31 = .ok (.bipush 40, 2) := by decide +kernel
theorem dX12_thing_33 : decode cX12_thing 33 = .ok (.if_icmp .ne 34, 3) := by decide +kernel
theorem dX12_thing_36 : decode cX12_thing 36 = .ok (.iload_n 1, 1) := by decide +kernel
theorem dX12_thing_37 : decode cX12_thing 37 = .ok (.iconst 4, 1) := by decide +kernel
theorem dX12_thing_38 : decode cX12_thing 38 = .ok (.if_icmp .ge 29, 3) := by decide +kernel
theorem dX12_thing_41 : decode cX12_thing 41 = .ok (.aload_n 0, 1) := by decide +kernel
theorem dX12_thing_42 : decode cX12_thing 42 = .ok (.dup, 1) := by decide +kernel
theorem dX12_thing_43 : decode cX12_thing 43 = .ok (.getfield 120, 3) := by decide +kernel
theorem dX12_thing_46 : decode cX12_thing 46 = .ok (.iconst 1, 1) := by decide +kernel
theorem dX12_thing_47 : decode cX12_thing 47 = .ok (.iadd, 1) := by decide +kernel
theorem dX12_thing_48 : decode cX12_thing 48 = .ok (.putfield 120, 3) := by decide +kernel
theorem dX12_thing_51 : decode cX12_thing 51 = .ok (.aload_n 0, 1) := by decide +kernel
theorem dX12_thing_52 : decode cX12_thing 52 = .ok (.iload_n 1, 1) := by decide +kernel
theorem dX12_thing_53 : decode cX12_thing 53 = .ok (.iconst 1, 1) := by decide +kernel
theorem dX12_thing_54 : decode cX12_thing 54 = .ok (.iadd, 1) := by decide +kernel
theorem dX12_thing_55 : decode cX12_thing 55 = .ok (.invokevirtual 199, 3) := by decide +kernel
theorem dX12_thing_58 : decode cX12_thing 58 = .ok (.istore_n 3, 1) := by decide +kernel
theorem dX12_thing_59 : decode cX12_thing 59 = .ok (.aload_n 0, 1) := by decide +kernel
theorem dX12_thing_60 : decode cX12_thing 60 = .ok (.bipush 41, 2) := by decide +kernel
theorem dX12_thing_62 : decode cX12_thing 62 = .ok (.invokevirtual 154, 3) := by decide +kernel
theorem dX12_thing_65 : decode cX12_thing 65 = .ok (.iload_n 3, 1) := by decide +kernel
theorem dX12_thing_66 : decode cX12_thing 66 = .ok (.ireturn, 1) := by decide +kernel
theorem dX12_thing_67 : decode cX12_thing 67 = .ok (.iload_n 2, 1) := by decide +kernel
theorem dX12_thing_68 : decode cX12_thing 68 = .ok (.bipush 48, 2) := by decide +kernel
theorem dX12_thing_70 : decode cX12_thing 70 = .ok (.bipush 57, 2) := by decide +kernel
theorem dX12_thing_72 : decode cX12_thing 72 = .ok (.invokestatic 104, 3) := by decide +kernel
theorem dX12_thing_75 : decode cX12_thing 75 = .ok (.ifCond .eq 9, 3) := by decide +kernel
theorem dX12_thing_78 : decode cX12_thing 78 = .ok (.aload_n 0, 1) := by decide +kernel
theorem dX12_thing_79 : decode cX12_thing 79 = .ok (.iconst 3, 1) := by decide +kernel
theorem dX12_thing_80 : decode cX12_thing 80 = .ok (.invokevirtual 150, 3) := by decide +kernel
theorem dX12_thing_83 : decode cX12_thing 83 = .ok (.ireturn, 1) := by decide +kernel
theorem dX12_thing_84 : decode cX12_thing 84 = .ok (.iload_n 2, 1) := by decide +kernel
theorem dX12_thing_85 : decode cX12_thing 85 = .ok (.invokestatic 202, 3) := by decide +kernel
theorem dX12_thing_88 : decode cX12_thing 88 = .ok (.iconst (-1), 1) := by decide +kernel
theorem dX12_thing_89 : decode cX12_thing 89 = .ok (.if_icmp .ne 13, 3) := by decide +kernel
theorem dX12_thing_92 : decode cX12_thing 92 = .ok (.aload_n 0, 1) := by decide +kernel
theorem dX12_thing_93 : decode cX12_thing 93 = .ok (.aload_n 0, 1) := by decide +kernel
theorem dX12_thing_94 : decode cX12_thing 94 = .ok (.getfield 120, 3) := by decide +kernel
theorem dX12_thing_97 : decode cX12_thing 97 = .ok (.invokevirtual 142, 3) := by decide +kernel
theorem dX12_thing_100 : decode cX12_thing 100 = .ok (.iconst 0, 1) := by decide +kernel
theorem dX12_thing_101 : decode cX12_thing 101 = .ok (.ireturn, 1) := by decide +kernel
theorem dX12_thing_102 : decode cX12_thing 102 = .ok (.aload_n 0, 1) := by decide +kernel
theorem dX12_thing_103 : decode cX12_thing 103 = .ok (.dup, 1) := by decide +kernel
theorem dX12_thing_104 : decode cX12_thing 104 = .ok (.getfield 120, 3) := by decide +kernel
theorem dX12_thing_107 : decode cX12_thing 107 = .ok (.iconst 1, 1) := by decide +kernel
theorem dX12_thing_108 : decode cX12_thing 108 = .ok (.iadd, 1) := by decide +kernel
theorem dX12_thing_109 : decode cX12_thing 109 = .ok (.putfield 120, 3) := by decide +kernel
theorem dX12_thing_112 : decode cX12_thing 112 = .ok (.aload_n 0, 1) := by decide +kernel
theorem dX12_thing_113 : decode cX12_thing 113 = .ok (.getfield 205, 3) := by decide +kernel
theorem dX12_thing_116 : decode cX12_thing 116 = .ok (.ifCond .eq 15, 3) := by decide +kernel
theorem dX12_thing_119 : decode cX12_thing 119 = .ok (.aload_n 0, 1) := by decide +kernel
theorem dX12_thing_120 : decode cX12_thing 120 = .ok (.getfield 59, 3) := by decide +kernel
theorem dX12_thing_123 : decode cX12_thing 123 = .ok (.iload_n 2, 1) := by decide +kernel
theorem dX12_thing_124 : decode cX12_thing 124 = .ok (.invokestatic 202, 3) := by decide +kernel
theorem dX12_thing_127 : decode cX12_thing 127 = .ok (.iaload, 1) := by decide +kernel
theorem dX12_thing_128 : decode cX12_thing 128 = .ok (.goto 4, 3) := by decide +kernel
theorem dX12_thing_131 : decode cX12_thing 131 = .ok (.iconst 0, 1) := by decide +kernel
theorem dX12_thing_132 : decode cX12_thing 132 = .ok (.ireturn, 1) := by decide +kernel
theorem dX12_rule_0 : decode cX12_rule 0 = .ok (.aload_n 0, 1) := by decide +kernel
theorem dX12_rule_1 : decode cX12_rule 1 = .ok (.iconst 0, 1) := by decide +kernel
theorem dX12_rule_2 : decode cX12_rule 2 = .ok (.putfield 95, 3) := by decide +kernel
theorem dX12_rule_5 : decode cX12_rule 5 = .ok (.aload_n 0, 1) := by decide +kernel
theorem dX12_rule_6 : decode cX12_rule 6 = .ok (.getfield 108, 3) := by decide +kernel
theorem dX12_rule_9 : decode cX12_rule 9 = .ok (.istore_n 1, 1) := by decide +kernel
theorem dX12_rule_10 : decode cX12_rule 10 = .ok (.aload_n 0, 1) := by decide +kernel
theorem dX12_rule_11 : decode cX12_rule 11 = .ok (.bipush 40, 2) := by decide +kernel
theorem dX12_rule_13 : decode cX12_rule 13 = .ok (.invokevirtual 162, 3) := by decide +kernel
theorem dX12_rule_16 : decode cX12_rule 16 = .ok (.aload_n 0, 1) := by decide +kernel
theorem dX12_rule_17 : decode cX12_rule 17 = .ok (.iconst 0, 1) := by decide +kernel
theorem dX12_rule_18 : decode cX12_rule 18 = .ok (.putfield 205, 3) := by decide +kernel
theorem dX12_rule_21 : decode cX12_rule 21 = .ok (.iload_n 1, 1) := by decide +kernel
theorem dX12_rule_22 : decode cX12_rule 22 = .ok (.ifCond .le 9, 3) := by decide +kernel
theorem dX12_rule_25 : decode cX12_rule 25 = .ok (.aload_n 0, 1) := by decide +kernel
theorem dX12_rule_26 : decode cX12_rule 26 = .ok (.iconst 0, 1) := by decide +kernel
theorem dX12_rule_27 : decode cX12_rule 27 = .ok (.invokevirtual 199, 3) := by decide +kernel
theorem dX12_rule_30 : decode cX12_rule 30 = .ok (.pop, 1) := by decide +kernel
theorem dX12_rule_31 : decode cX12_rule 31 = .ok (.aload_n 0, 1) := by decide +kernel
theorem dX12_rule_32 : decode cX12_rule 32 = .ok (.invokevirtual 172, 3) := by decide +kernel
theorem dX12_rule_35 : decode cX12_rule 35 = .ok (.ifCond .ne 10, 3) := by decide +kernel
theorem dX12_rule_38 : decode cX12_rule 38 = .ok (.iconst (-1), 1) := by decide +kernel
theorem dX12_rule_39 : decode cX12_rule 39 = .ok (.aload_n 0, 1) := by decide +kernel
theorem dX12_rule_40 : decode cX12_rule 40 = .ok (.getfield 123, 3) := by decide +kernel
theorem dX12_rule_43 : decode cX12_rule 43 = .ok (.isub, 1) := by decide +kernel
theorem dX12_rule_44 : decode cX12_rule 44 = .ok (.ireturn, 1) := by decide +kernel
theorem dX12_rule_45 : decode cX12_rule 45 = .ok (.iconst 0, 1) := by decide +kernel
theorem dX12_rule_46 : decode cX12_rule 46 = .ok (.istore_n 2, 1) := by decide +kernel
theorem dX12_rule_47 : decode cX12_rule 47 = .ok (.iload_n 2, 1) := by decide +kernel
theorem dX12_rule_48 : decode cX12_rule 48 = .ok (.iload_n 1, 1) := by decide +kernel
theorem dX12_rule_49 : decode cX12_rule 49 = .ok (.if_icmp .ge 21, 3) := by decide +kernel
theorem dX12_rule_52 : decode cX12_rule 52 = .ok (.aload_n 0, 1) := by decide +kernel
theorem dX12_rule_53 : decode cX12_rule 53 = .ok (.getfield 56, 3) := by decide +kernel
theorem dX12_rule_56 : decode cX12_rule 56 = .ok (.iload_n 2, 1) := by decide +kernel
theorem dX12_rule_57 : decode cX12_rule 57 = .ok (.aload_n 0, 1) := by decide +kernel
theorem dX12_rule_58 : decode cX12_rule 58 = .ok (.getfield 45, 3) := by decide +kernel
theorem dX12_rule_61 : decode cX12_rule 61 = .ok (.iload_n 2, 1) := by decide +kernel
theorem dX12_rule_62 : decode cX12_rule 62 = .ok (.baload, 1) := by decide +kernel
theorem dX12_rule_63 : decode cX12_rule 63 = .ok (.bastore, 1) := by decide +kernel
theorem dX12_rule_64 : decode cX12_rule 64 = .ok (.iinc 2 1, 3) := by decide +kernel
theorem dX12_rule_67 : decode cX12_rule 67 = .ok (.goto (-20), 3) := by decide +kernel
theorem dX12_rule_70 : decode cX12_rule 70 = .ok (.aload_n 0, 1) := by decide +kernel
theorem dX12_rule_71 : decode cX12_rule 71 = .ok (.iload_n 1, 1) := by decide +kernel
theorem dX12_rule_72 : decode cX12_rule 72 = .ok (.putfield 209, 3) := by decide +kernel
theorem dX12_rule_75 : decode cX12_rule 75 = .ok (.iconst 0, 1) := by decide +kernel
theorem dX12_rule_76 : decode cX12_rule 76 = .ok (.ireturn, 1) := by decide +kernel
theorem dX12_isMan_0 : decode cX12_isMan 0 = .ok (.iload_n 1, 1) := by decide +kernel
theorem dX12_isMan_1 : decode cX12_isMan 1 = .ok (.iconst 0, 1) := by decide +kernel
theorem dX12_isMan_2 : decode cX12_isMan 2 = .ok (.aload_n 0, 1) := by decide +kernel
theorem dX12_isMan_3 : decode cX12_isMan 3 = .ok (.getfield 101, 3) := by decide +kernel
theorem dX12_isMan_6 : decode cX12_isMan 6 = .ok (.iconst 1, 1) := by decide +kernel
theorem dX12_isMan_7 : decode cX12_isMan 7 = .ok (.isub, 1) := by decide +kernel
theorem dX12_isMan_8 : decode cX12_isMan 8 = .ok (.invokestatic 104, 3) := by decide +kernel
theorem dX12_isMan_11 : decode cX12_isMan 11 = .ok (.ireturn, 1) := by decide +kernel
theorem dX12_leftOf_0 : decode cX12_leftOf 0 = .ok (.aload_n 0, 1) := by decide +kernel
theorem dX12_leftOf_1 : decode cX12_leftOf 1 = .ok (.getfield 13, 3) := by decide +kernel
theorem dX12_leftOf_4 : decode cX12_leftOf 4 = .ok (.iload_n 1, 1) := by decide +kernel
theorem dX12_leftOf_5 : decode cX12_leftOf 5 = .ok (.iaload, 1) := by decide +kernel
theorem dX12_leftOf_6 : decode cX12_leftOf 6 = .ok (.iload_n 2, 1) := by decide +kernel
theorem dX12_leftOf_7 : decode cX12_leftOf 7 = .ok (.isub, 1) := by decide +kernel
theorem dX12_leftOf_8 : decode cX12_leftOf 8 = .ok (.iconst 5, 1) := by decide +kernel
theorem dX12_leftOf_9 : decode cX12_leftOf 9 = .ok (.iload_n 3, 1) := by decide +kernel
theorem dX12_leftOf_10 : decode cX12_leftOf 10 = .ok (.imul, 1) := by decide +kernel
theorem dX12_leftOf_11 : decode cX12_leftOf 11 = .ok (.isub, 1) := by decide +kernel
theorem dX12_leftOf_12 : decode cX12_leftOf 12 = .ok (.iconst 4, 1) := by decide +kernel
theorem dX12_leftOf_13 : decode cX12_leftOf 13 = .ok (.iload 4, 2) := by decide +kernel
theorem dX12_leftOf_15 : decode cX12_leftOf 15 = .ok (.iconst 2, 1) := by decide +kernel
theorem dX12_leftOf_16 : decode cX12_leftOf 16 = .ok (.irem, 1) := by decide +kernel
theorem dX12_leftOf_17 : decode cX12_leftOf 17 = .ok (.imul, 1) := by decide +kernel
theorem dX12_leftOf_18 : decode cX12_leftOf 18 = .ok (.isub, 1) := by decide +kernel
theorem dX12_leftOf_19 : decode cX12_leftOf 19 = .ok (.istore 5, 2) := by decide +kernel
theorem dX12_leftOf_21 : decode cX12_leftOf 21 = .ok (.aload_n 0, 1) := by decide +kernel
theorem dX12_leftOf_22 : decode cX12_leftOf 22 = .ok (.getfield 209, 3) := by decide +kernel
theorem dX12_leftOf_25 : decode cX12_leftOf 25 = .ok (.ifCond .le 89, 3) := by decide +kernel
theorem dX12_leftOf_28 : decode cX12_leftOf 28 = .ok (.aload_n 0, 1) := by decide +kernel
theorem dX12_leftOf_29 : decode cX12_leftOf 29 = .ok (.getfield 59, 3) := by decide +kernel
theorem dX12_leftOf_32 : decode cX12_leftOf 32 = .ok (.iconst 0, 1) := by decide +kernel
theorem dX12_leftOf_33 : decode cX12_leftOf 33 = .ok (.aload_n 0, 1) := by decide +kernel
theorem dX12_leftOf_34 : decode cX12_leftOf 34 = .ok (.getfield 13, 3) := by decide +kernel
theorem dX12_leftOf_37 : decode cX12_leftOf 37 = .ok (.iload_n 1, 1) := by decide +kernel
theorem dX12_leftOf_38 : decode cX12_leftOf 38 = .ok (.iaload, 1) := by decide +kernel
theorem dX12_leftOf_39 : decode cX12_leftOf 39 = .ok (.iastore, 1) := by decide +kernel
theorem dX12_leftOf_40 : decode cX12_leftOf 40 = .ok (.aload_n 0, 1) := by decide +kernel
theorem dX12_leftOf_41 : decode cX12_leftOf 41 = .ok (.getfield 59, 3) := by decide +kernel
theorem dX12_leftOf_44 : decode cX12_leftOf 44 = .ok (.iconst 1, 1) := by decide +kernel
theorem dX12_leftOf_45 : decode cX12_leftOf 45 = .ok (.iload_n 2, 1) := by decide +kernel
theorem dX12_leftOf_46 : decode cX12_leftOf 46 = .ok (.iastore, 1) := by decide +kernel
theorem dX12_leftOf_47 : decode cX12_leftOf 47 = .ok (.aload_n 0, 1) := by decide +kernel
theorem dX12_leftOf_48 : decode cX12_leftOf 48 = .ok (.getfield 59, 3) := by decide +kernel
theorem dX12_leftOf_51 : decode cX12_leftOf 51 = .ok (.iconst 2, 1) := by decide +kernel
theorem dX12_leftOf_52 : decode cX12_leftOf 52 = .ok (.iload_n 3, 1) := by decide +kernel
theorem dX12_leftOf_53 : decode cX12_leftOf 53 = .ok (.iastore, 1) := by decide +kernel
theorem dX12_leftOf_54 : decode cX12_leftOf 54 = .ok (.aload_n 0, 1) := by decide +kernel
theorem dX12_leftOf_55 : decode cX12_leftOf 55 = .ok (.getfield 59, 3) := by decide +kernel
theorem dX12_leftOf_58 : decode cX12_leftOf 58 = .ok (.iconst 3, 1) := by decide +kernel
theorem dX12_leftOf_59 : decode cX12_leftOf 59 = .ok (.iload 4, 2) := by decide +kernel
theorem dX12_leftOf_61 : decode cX12_leftOf 61 = .ok (.iconst 2, 1) := by decide +kernel
theorem dX12_leftOf_62 : decode cX12_leftOf 62 = .ok (.irem, 1) := by decide +kernel
theorem dX12_leftOf_63 : decode cX12_leftOf 63 = .ok (.iastore, 1) := by decide +kernel
theorem dX12_leftOf_64 : decode cX12_leftOf 64 = .ok (.aload_n 0, 1) := by decide +kernel
theorem dX12_leftOf_65 : decode cX12_leftOf 65 = .ok (.getfield 59, 3) := by decide +kernel
theorem dX12_leftOf_68 : decode cX12_leftOf 68 = .ok (.iconst 4, 1) := by decide +kernel
theorem dX12_leftOf_69 : decode cX12_leftOf 69 = .ok (.aload_n 0, 1) := by decide +kernel
theorem dX12_leftOf_70 : decode cX12_leftOf 70 = .ok (.getfield 16, 3) := by decide +kernel
theorem dX12_leftOf_73 : decode cX12_leftOf 73 = .ok (.iload_n 1, 1) := by decide +kernel
theorem dX12_leftOf_74 : decode cX12_leftOf 74 = .ok (.iaload, 1) := by decide +kernel
theorem dX12_leftOf_75 : decode cX12_leftOf 75 = .ok (.iastore, 1) := by decide +kernel
theorem dX12_leftOf_76 : decode cX12_leftOf 76 = .ok (.aload_n 0, 1) := by decide +kernel
theorem dX12_leftOf_77 : decode cX12_leftOf 77 = .ok (.getfield 59, 3) := by decide +kernel
theorem dX12_leftOf_80 : decode cX12_leftOf 80 = .ok (.iconst 5, 1) := by decide +kernel
theorem dX12_leftOf_81 : decode cX12_leftOf 81 = .ok (.iload_n 1, 1) := by decide +kernel
theorem dX12_leftOf_82 : decode cX12_leftOf 82 = .ok (.iastore, 1) := by decide +kernel
theorem dX12_leftOf_83 : decode cX12_leftOf 83 = .ok (.aload_n 0, 1) := by decide +kernel
theorem dX12_leftOf_84 : decode cX12_leftOf 84 = .ok (.aload_n 0, 1) := by decide +kernel
theorem dX12_leftOf_85 : decode cX12_leftOf 85 = .ok (.getfield 56, 3) := by decide +kernel
theorem dX12_leftOf_88 : decode cX12_leftOf 88 = .ok (.aload_n 0, 1) := by decide +kernel
theorem dX12_leftOf_89 : decode cX12_leftOf 89 = .ok (.getfield 209, 3) := by decide +kernel
theorem dX12_leftOf_92 : decode cX12_leftOf 92 = .ok (.bipush 40, 2) := by decide +kernel
theorem dX12_leftOf_94 : decode cX12_leftOf 94 = .ok (.invokevirtual 126, 3) := by decide +kernel
theorem dX12_leftOf_97 : decode cX12_leftOf 97 = .ok (.aload_n 0, 1) := by decide +kernel
theorem dX12_leftOf_98 : decode cX12_leftOf 98 = .ok (.iconst 1, 1) := by decide +kernel
theorem dX12_leftOf_99 : decode cX12_leftOf 99 = .ok (.putfield 205, 3) := by decide +kernel
theorem dX12_leftOf_102 : decode cX12_leftOf 102 = .ok (.aload_n 0, 1) := by decide +kernel
theorem dX12_leftOf_103 : decode cX12_leftOf 103 = .ok (.iconst 0, 1) := by decide +kernel
theorem dX12_leftOf_104 : decode cX12_leftOf 104 = .ok (.invokevirtual 199, 3) := by decide +kernel
theorem dX12_leftOf_107 : decode cX12_leftOf 107 = .ok (.istore 5, 2) := by decide +kernel
theorem dX12_leftOf_109 : decode cX12_leftOf 109 = .ok (.aload_n 0, 1) := by decide +kernel
theorem dX12_leftOf_110 : decode cX12_leftOf 110 = .ok (.iconst 0, 1) := by decide +kernel
theorem dX12_leftOf_111 : decode cX12_leftOf 111 = .ok (.putfield 205, 3) := by decide +kernel
theorem dX12_leftOf_114 : decode cX12_leftOf 114 = .ok (.sipush (-999), 3) := by decide +kernel
theorem dX12_leftOf_117 : decode cX12_leftOf 117 = .ok (.sipush 999, 3) := by decide +kernel
theorem dX12_leftOf_120 : decode cX12_leftOf 120 = .ok (.iload 5, 2) := by decide +kernel
theorem dX12_leftOf_122 : decode cX12_leftOf 122 = .ok (.invokestatic 212, 3) := by decide +kernel
theorem dX12_leftOf_125 : decode cX12_leftOf 125 = .ok (.invokestatic 217, 3) := by decide +kernel
theorem dX12_leftOf_128 : decode cX12_leftOf 128 = .ok (.ireturn, 1) := by decide +kernel
theorem dX12_leftNow_0 : decode cX12_leftNow 0 = .ok (.aload_n 0, 1) := by decide +kernel
theorem dX12_leftNow_1 : decode cX12_leftNow 1 = .ok (.iload_n 2, 1) := by decide +kernel
theorem dX12_leftNow_2 : decode cX12_leftNow 2 = .ok (.aload_n 1, 1) := by decide +kernel
theorem dX12_leftNow_3 : decode cX12_leftNow 3 = .ok (.bipush 6, 2) := by decide +kernel
theorem dX12_leftNow_5 : decode cX12_leftNow 5 = .ok (.iload_n 2, 1) := by decide +kernel
theorem dX12_leftNow_6 : decode cX12_leftNow 6 = .ok (.iadd, 1) := by decide +kernel
theorem dX12_leftNow_7 : decode cX12_leftNow 7 = .ok (.iaload, 1) := by decide +kernel
theorem dX12_leftNow_8 : decode cX12_leftNow 8 = .ok (.aload_n 1, 1) := by decide +kernel
theorem dX12_leftNow_9 : decode cX12_leftNow 9 = .ok (.bipush 12, 2) := by decide +kernel
theorem dX12_leftNow_11 : decode cX12_leftNow 11 = .ok (.iload_n 2, 1) := by decide +kernel
theorem dX12_leftNow_12 : decode cX12_leftNow 12 = .ok (.iadd, 1) := by decide +kernel
theorem dX12_leftNow_13 : decode cX12_leftNow 13 = .ok (.iaload, 1) := by decide +kernel
theorem dX12_leftNow_14 : decode cX12_leftNow 14 = .ok (.aload_n 1, 1) := by decide +kernel
theorem dX12_leftNow_15 : decode cX12_leftNow 15 = .ok (.bipush 26, 2) := by decide +kernel
theorem dX12_leftNow_17 : decode cX12_leftNow 17 = .ok (.iaload, 1) := by decide +kernel
theorem dX12_leftNow_18 : decode cX12_leftNow 18 = .ok (.invokevirtual 220, 3) := by decide +kernel
theorem dX12_leftNow_21 : decode cX12_leftNow 21 = .ok (.ireturn, 1) := by decide +kernel
theorem dX12_lost_0 : decode cX12_lost 0 = .ok (.aload_n 0, 1) := by decide +kernel
theorem dX12_lost_1 : decode cX12_lost 1 = .ok (.iconst 1, 1) := by decide +kernel
theorem dX12_lost_2 : decode cX12_lost 2 = .ok (.putfield 95, 3) := by decide +kernel
theorem dX12_lost_5 : decode cX12_lost 5 = .ok (.iconst 0, 1) := by decide +kernel
theorem dX12_lost_6 : decode cX12_lost 6 = .ok (.ireturn, 1) := by decide +kernel
theorem dX12_proofIn_0 : decode cX12_proofIn 0 = .ok (.iconst 0, 1) := by decide +kernel
theorem dX12_proofIn_1 : decode cX12_proofIn 1 = .ok (.istore 4, 2) := by decide +kernel
theorem dX12_proofIn_3 : decode cX12_proofIn 3 = .ok (.iconst 0, 1) := by decide +kernel
theorem dX12_proofIn_4 : decode cX12_proofIn 4 = .ok (.istore 5, 2) := by decide +kernel
theorem dX12_proofIn_6 : decode cX12_proofIn 6 = .ok (.iload 5, 2) := by decide +kernel
theorem dX12_proofIn_8 : decode cX12_proofIn 8 = .ok (.aload_n 0, 1) := by decide +kernel
theorem dX12_proofIn_9 : decode cX12_proofIn 9 = .ok (.getfield 181, 3) := by decide +kernel
theorem dX12_proofIn_12 : decode cX12_proofIn 12 = .ok (.if_icmp .ge 50, 3) := by decide +kernel
theorem dX12_proofIn_15 : decode cX12_proofIn 15 = .ok (.iload 4, 2) := by decide +kernel
theorem dX12_proofIn_17 : decode cX12_proofIn 17 = .ok (.aload_n 0, 1) := by decide +kernel
theorem dX12_proofIn_18 : decode cX12_proofIn 18 = .ok (.getfield 32, 3) := by decide +kernel
theorem dX12_proofIn_21 : decode cX12_proofIn 21 = .ok (.iload 5, 2) := by decide +kernel
theorem dX12_proofIn_23 : decode cX12_proofIn 23 = .ok (.iaload, 1) := by decide +kernel
theorem dX12_proofIn_24 : decode cX12_proofIn 24 = .ok (.iload_n 2, 1) := by decide +kernel
theorem dX12_proofIn_25 : decode cX12_proofIn 25 = .ok (.if_icmp .ne 27, 3) := by decide +kernel
theorem dX12_proofIn_28 : decode cX12_proofIn 28 = .ok (.iconst 0, 1) := by decide +kernel
theorem dX12_proofIn_29 : decode cX12_proofIn 29 = .ok (.aload_n 1, 1) := by decide +kernel
theorem dX12_proofIn_30 : decode cX12_proofIn 30 = .ok (.bipush 18, 2) := by decide +kernel
theorem dX12_proofIn_32 : decode cX12_proofIn 32 = .ok (.iload 5, 2) := by decide +kernel
theorem dX12_proofIn_34 : decode cX12_proofIn 34 = .ok (.iadd, 1) := by decide +kernel
theorem dX12_proofIn_35 : decode cX12_proofIn 35 = .ok (.iaload, 1) := by decide +kernel
theorem dX12_proofIn_36 : decode cX12_proofIn 36 = .ok (.iload_n 3, 1) := by decide +kernel
theorem dX12_proofIn_37 : decode cX12_proofIn 37 = .ok (.aload_n 0, 1) := by decide +kernel
theorem dX12_proofIn_38 : decode cX12_proofIn 38 = .ok (.getfield 35, 3) := by decide +kernel
theorem dX12_proofIn_41 : decode cX12_proofIn 41 = .ok (.iload 5, 2) := by decide +kernel
theorem dX12_proofIn_43 : decode cX12_proofIn 43 = .ok (.iaload, 1) := by decide +kernel
theorem dX12_proofIn_44 : decode cX12_proofIn 44 = .ok (.imul, 1) := by decide +kernel
theorem dX12_proofIn_45 : decode cX12_proofIn 45 = .ok (.isub, 1) := by decide +kernel
theorem dX12_proofIn_46 : decode cX12_proofIn 46 = .ok (.invokestatic 217, 3) := by decide +kernel
theorem dX12_proofIn_49 : decode cX12_proofIn 49 = .ok (.goto 4, 3) := by decide +kernel
theorem dX12_proofIn_52 : decode cX12_proofIn 52 = .ok (.iconst 0, 1) := by decide +kernel
theorem dX12_proofIn_53 : decode cX12_proofIn 53 = .ok (.iadd, 1) := by decide +kernel
theorem dX12_proofIn_54 : decode cX12_proofIn 54 = .ok (.istore 4, 2) := by decide +kernel
theorem dX12_proofIn_56 : decode cX12_proofIn 56 = .ok (.iinc 5 1, 3) := by decide +kernel
theorem dX12_proofIn_59 : decode cX12_proofIn 59 = .ok (.goto (-53), 3) := by decide +kernel
theorem dX12_proofIn_62 : decode cX12_proofIn 62 = .ok (.iload 4, 2) := by decide +kernel
theorem dX12_proofIn_64 : decode cX12_proofIn 64 = .ok (.ireturn, 1) := by decide +kernel
theorem dX12_valuesOf_0 : decode cX12_valuesOf 0 = .ok (.iconst 0, 1) := by decide +kernel
theorem dX12_valuesOf_1 : decode cX12_valuesOf 1 = .ok (.istore_n 2, 1) := by decide +kernel
theorem dX12_valuesOf_2 : decode cX12_valuesOf 2 = .ok (.iconst 0, 1) := by decide +kernel
theorem dX12_valuesOf_3 : decode cX12_valuesOf 3 = .ok (.istore_n 3, 1) := by decide +kernel
theorem dX12_valuesOf_4 : decode cX12_valuesOf 4 = .ok (.iload_n 3, 1) := by decide +kernel
theorem dX12_valuesOf_5 : decode cX12_valuesOf 5 = .ok (.bipush 8, 2) := by decide +kernel
theorem dX12_valuesOf_7 : decode cX12_valuesOf 7 = .ok (.if_icmp .ge 30, 3) := by decide +kernel
theorem dX12_valuesOf_10 : decode cX12_valuesOf 10 = .ok (.iload_n 2, 1) := by decide +kernel
theorem dX12_valuesOf_11 : decode cX12_valuesOf 11 = .ok (.iload_n 1, 1) := by decide +kernel
theorem dX12_valuesOf_12 : decode cX12_valuesOf 12 = .ok (.iload_n 3, 1) := by decide +kernel
theorem dX12_valuesOf_13 : decode cX12_valuesOf 13 = .ok (.invokestatic 158, 3) := by decide +kernel
theorem dX12_valuesOf_16 : decode cX12_valuesOf 16 = .ok (.ifCond .eq 12, 3) := by decide +kernel
theorem dX12_valuesOf_19 : decode cX12_valuesOf 19 = .ok (.aload_n 0, 1) := by decide +kernel
theorem dX12_valuesOf_20 : decode cX12_valuesOf 20 = .ok (.getfield 29, 3) := by decide +kernel
theorem dX12_valuesOf_23 : decode cX12_valuesOf 23 = .ok (.iload_n 3, 1) := by decide +kernel
theorem dX12_valuesOf_24 : decode cX12_valuesOf 24 = .ok (.iaload, 1) := by decide +kernel
theorem dX12_valuesOf_25 : decode cX12_valuesOf 25 = .ok (.goto 4, 3) := by decide +kernel
theorem dX12_valuesOf_28 : decode cX12_valuesOf 28 = .ok (.iconst 0, 1) := by decide +kernel
theorem dX12_valuesOf_29 : decode cX12_valuesOf 29 = .ok (.iadd, 1) := by decide +kernel
theorem dX12_valuesOf_30 : decode cX12_valuesOf 30 = .ok (.istore_n 2, 1) := by decide +kernel
theorem dX12_valuesOf_31 : decode cX12_valuesOf 31 = .ok (.iinc 3 1, 3) := by decide +kernel
theorem dX12_valuesOf_34 : decode cX12_valuesOf 34 = .ok (.goto (-30), 3) := by decide +kernel
theorem dX12_valuesOf_37 : decode cX12_valuesOf 37 = .ok (.iload_n 2, 1) := by decide +kernel
theorem dX12_valuesOf_38 : decode cX12_valuesOf 38 = .ok (.ireturn, 1) := by decide +kernel
theorem dX12_prisoner_0 : decode cX12_prisoner 0 = .ok (.aload_n 0, 1) := by decide +kernel
theorem dX12_prisoner_1 : decode cX12_prisoner 1 = .ok (.iconst 0, 1) := by decide +kernel
theorem dX12_prisoner_2 : decode cX12_prisoner 2 = .ok (.putfield 95, 3) := by decide +kernel
theorem dX12_prisoner_5 : decode cX12_prisoner 5 = .ok (.aload_n 0, 1) := by decide +kernel
theorem dX12_prisoner_6 : decode cX12_prisoner 6 = .ok (.iload_n 1, 1) := by decide +kernel
theorem dX12_prisoner_7 : decode cX12_prisoner 7 = .ok (.invokevirtual 224, 3) := by decide +kernel
theorem dX12_prisoner_10 : decode cX12_prisoner 10 = .ok (.ifCond .eq 13, 3) := by decide +kernel
theorem dX12_prisoner_13 : decode cX12_prisoner 13 = .ok (.iload_n 2, 1) := by decide +kernel
theorem dX12_prisoner_14 : decode cX12_prisoner 14 = .ok (.iconst 0, 1) := by decide +kernel
theorem dX12_prisoner_15 : decode cX12_prisoner 15 = .ok (.bipush 10, 2) := by decide +kernel
theorem dX12_prisoner_17 : decode cX12_prisoner 17 = .ok (.invokestatic 104, 3) := by decide +kernel
theorem dX12_prisoner_20 : decode cX12_prisoner 20 = .ok (.ifCond .ne 8, 3) := by decide +kernel
theorem dX12_prisoner_23 : decode cX12_prisoner 23 = .ok (.aload_n 0, 1) := by decide +kernel
theorem dX12_prisoner_24 : decode cX12_prisoner 24 = .ok (.invokevirtual 228, 3) := by decide +kernel
theorem dX12_prisoner_27 : decode cX12_prisoner 27 = .ok (.ireturn, 1) := by decide +kernel
theorem dX12_prisoner_28 : decode cX12_prisoner 28 = .ok (.iload_n 2, 1) := by decide +kernel
theorem dX12_prisoner_29 : decode cX12_prisoner 29 = .ok (.tableswitch 146 0 9 #[55, 62, 69, 84, 91, 98, 105, 115, 125, 135], 55) := by decide +kernel
theorem dX12_prisoner_84 : decode cX12_prisoner 84 = .ok (.aload_n 0, 1) := by decide +kernel
theorem dX12_prisoner_85 : decode cX12_prisoner 85 = .ok (.getfield 13, 3) := by decide +kernel
theorem dX12_prisoner_88 : decode cX12_prisoner 88 = .ok (.iload_n 1, 1) := by decide +kernel
theorem dX12_prisoner_89 : decode cX12_prisoner 89 = .ok (.iaload, 1) := by decide +kernel
theorem dX12_prisoner_90 : decode cX12_prisoner 90 = .ok (.ireturn, 1) := by decide +kernel
theorem dX12_prisoner_91 : decode cX12_prisoner 91 = .ok (.aload_n 0, 1) := by decide +kernel
theorem dX12_prisoner_92 : decode cX12_prisoner 92 = .ok (.getfield 16, 3) := by decide +kernel
theorem dX12_prisoner_95 : decode cX12_prisoner 95 = .ok (.iload_n 1, 1) := by decide +kernel
theorem dX12_prisoner_96 : decode cX12_prisoner 96 = .ok (.iaload, 1) := by decide +kernel
theorem dX12_prisoner_97 : decode cX12_prisoner 97 = .ok (.ireturn, 1) := by decide +kernel
theorem dX12_prisoner_98 : decode cX12_prisoner 98 = .ok (.aload_n 0, 1) := by decide +kernel
theorem dX12_prisoner_99 : decode cX12_prisoner 99 = .ok (.getfield 19, 3) := by decide +kernel
theorem dX12_prisoner_102 : decode cX12_prisoner 102 = .ok (.iload_n 1, 1) := by decide +kernel
theorem dX12_prisoner_103 : decode cX12_prisoner 103 = .ok (.baload, 1) := by decide +kernel
theorem dX12_prisoner_104 : decode cX12_prisoner 104 = .ok (.ifCond .eq 7, 3) := by decide +kernel
theorem dX12_prisoner_107 : decode cX12_prisoner 107 = .ok (.iconst 1, 1) := by decide +kernel
theorem dX12_prisoner_108 : decode cX12_prisoner 108 = .ok (.goto 4, 3) := by decide +kernel
theorem dX12_prisoner_111 : decode cX12_prisoner 111 = .ok (.iconst 0, 1) := by decide +kernel
theorem dX12_prisoner_112 : decode cX12_prisoner 112 = .ok (.ireturn, 1) := by decide +kernel
theorem dX12_prisoner_113 : decode cX12_prisoner 113 = .ok (.aload_n 0, 1) := by decide +kernel
theorem dX12_prisoner_114 : decode cX12_prisoner 114 = .ok (.getfield 23, 3) := by decide +kernel
theorem dX12_prisoner_117 : decode cX12_prisoner 117 = .ok (.iload_n 1, 1) := by decide +kernel
theorem dX12_prisoner_118 : decode cX12_prisoner 118 = .ok (.iaload, 1) := by decide +kernel
theorem dX12_prisoner_119 : decode cX12_prisoner 119 = .ok (.ireturn, 1) := by decide +kernel
theorem dX12_prisoner_120 : decode cX12_prisoner 120 = .ok (.aload_n 0, 1) := by decide +kernel
theorem dX12_prisoner_121 : decode cX12_prisoner 121 = .ok (.getfield 26, 3) := by decide +kernel
theorem dX12_prisoner_124 : decode cX12_prisoner 124 = .ok (.iload_n 1, 1) := by decide +kernel
theorem dX12_prisoner_125 : decode cX12_prisoner 125 = .ok (.iaload, 1) := by decide +kernel
theorem dX12_prisoner_126 : decode cX12_prisoner 126 = .ok (.ireturn, 1) := by decide +kernel
theorem dX12_prisoner_127 : decode cX12_prisoner 127 = .ok (.aload_n 0, 1) := by decide +kernel
theorem dX12_prisoner_128 : decode cX12_prisoner 128 = .ok (.getfield 9, 3) := by decide +kernel
theorem dX12_prisoner_131 : decode cX12_prisoner 131 = .ok (.iload_n 1, 1) := by decide +kernel
theorem dX12_prisoner_132 : decode cX12_prisoner 132 = .ok (.iaload, 1) := by decide +kernel
theorem dX12_prisoner_133 : decode cX12_prisoner 133 = .ok (.ireturn, 1) := by decide +kernel
theorem dX12_prisoner_134 : decode cX12_prisoner 134 = .ok (.aload_n 0, 1) := by decide +kernel
theorem dX12_prisoner_135 : decode cX12_prisoner 135 = .ok (.getfield 9, 3) := by decide +kernel
theorem dX12_prisoner_138 : decode cX12_prisoner 138 = .ok (.bipush 6, 2) := by decide +kernel
theorem dX12_prisoner_140 : decode cX12_prisoner 140 = .ok (.iload_n 1, 1) := by decide +kernel
theorem dX12_prisoner_141 : decode cX12_prisoner 141 = .ok (.iadd, 1) := by decide +kernel
theorem dX12_prisoner_142 : decode cX12_prisoner 142 = .ok (.iaload, 1) := by decide +kernel
theorem dX12_prisoner_143 : decode cX12_prisoner 143 = .ok (.ireturn, 1) := by decide +kernel
theorem dX12_prisoner_144 : decode cX12_prisoner 144 = .ok (.aload_n 0, 1) := by decide +kernel
theorem dX12_prisoner_145 : decode cX12_prisoner 145 = .ok (.getfield 9, 3) := by decide +kernel
theorem dX12_prisoner_148 : decode cX12_prisoner 148 = .ok (.bipush 12, 2) := by decide +kernel
theorem dX12_prisoner_150 : decode cX12_prisoner 150 = .ok (.iload_n 1, 1) := by decide +kernel
theorem dX12_prisoner_151 : decode cX12_prisoner 151 = .ok (.iadd, 1) := by decide +kernel
theorem dX12_prisoner_152 : decode cX12_prisoner 152 = .ok (.iaload, 1) := by decide +kernel
theorem dX12_prisoner_153 : decode cX12_prisoner 153 = .ok (.ireturn, 1) := by decide +kernel
theorem dX12_prisoner_154 : decode cX12_prisoner 154 = .ok (.aload_n 0, 1) := by decide +kernel
theorem dX12_prisoner_155 : decode cX12_prisoner 155 = .ok (.aload_n 0, 1) := by decide +kernel
theorem dX12_prisoner_156 : decode cX12_prisoner 156 = .ok (.getfield 9, 3) := by decide +kernel
theorem dX12_prisoner_159 : decode cX12_prisoner 159 = .ok (.iload_n 1, 1) := by decide +kernel
theorem dX12_prisoner_160 : decode cX12_prisoner 160 = .ok (.invokevirtual 231, 3) := by decide +kernel
theorem dX12_prisoner_163 : decode cX12_prisoner 163 = .ok (.ireturn, 1) := by decide +kernel
theorem dX12_prisoner_164 : decode cX12_prisoner 164 = .ok (.aload_n 0, 1) := by decide +kernel
theorem dX12_prisoner_165 : decode cX12_prisoner 165 = .ok (.aload_n 0, 1) := by decide +kernel
theorem dX12_prisoner_166 : decode cX12_prisoner 166 = .ok (.getfield 9, 3) := by decide +kernel
theorem dX12_prisoner_169 : decode cX12_prisoner 169 = .ok (.iload_n 1, 1) := by decide +kernel
theorem dX12_prisoner_170 : decode cX12_prisoner 170 = .ok (.iconst 0, 1) := by decide +kernel
theorem dX12_prisoner_171 : decode cX12_prisoner 171 = .ok (.invokevirtual 235, 3) := by decide +kernel
theorem dX12_prisoner_174 : decode cX12_prisoner 174 = .ok (.ireturn, 1) := by decide +kernel
theorem dX12_prisoner_175 : decode cX12_prisoner 175 = .ok (.aload_n 0, 1) := by decide +kernel
theorem dX12_prisoner_176 : decode cX12_prisoner 176 = .ok (.aload_n 0, 1) := by decide +kernel
theorem dX12_prisoner_177 : decode cX12_prisoner 177 = .ok (.getfield 26, 3) := by decide +kernel
theorem dX12_prisoner_180 : decode cX12_prisoner 180 = .ok (.iload_n 1, 1) := by decide +kernel
theorem dX12_prisoner_181 : decode cX12_prisoner 181 = .ok (.iaload, 1) := by decide +kernel
theorem dX12_prisoner_182 : decode cX12_prisoner 182 = .ok (.invokevirtual 239, 3) := by decide +kernel
theorem dX12_prisoner_185 : decode cX12_prisoner 185 = .ok (.ireturn, 1) := by decide +kernel
theorem dX12_thrown_0 : decode cX12_thrown 0 = .ok (.aload_n 0, 1) := by decide +kernel
theorem dX12_thrown_1 : decode cX12_thrown 1 = .ok (.getfield 95, 3) := by decide +kernel
theorem dX12_thrown_4 : decode cX12_thrown 4 = .ok (.ireturn, 1) := by decide +kernel
theorem dX12_witness_0 : decode cX12_witness 0 = .ok (.aload_n 0, 1) := by decide +kernel
theorem dX12_witness_1 : decode cX12_witness 1 = .ok (.iconst 0, 1) := by decide +kernel
theorem dX12_witness_2 : decode cX12_witness 2 = .ok (.putfield 95, 3) := by decide +kernel
theorem dX12_witness_5 : decode cX12_witness 5 = .ok (.iload_n 1, 1) := by decide +kernel
theorem dX12_witness_6 : decode cX12_witness 6 = .ok (.iconst 0, 1) := by decide +kernel
theorem dX12_witness_7 : decode cX12_witness 7 = .ok (.aload_n 0, 1) := by decide +kernel
theorem dX12_witness_8 : decode cX12_witness 8 = .ok (.getfield 181, 3) := by decide +kernel
theorem dX12_witness_11 : decode cX12_witness 11 = .ok (.iconst 1, 1) := by decide +kernel
theorem dX12_witness_12 : decode cX12_witness 12 = .ok (.isub, 1) := by decide +kernel
theorem dX12_witness_13 : decode cX12_witness 13 = .ok (.invokestatic 104, 3) := by decide +kernel
theorem dX12_witness_16 : decode cX12_witness 16 = .ok (.ifCond .eq 12, 3) := by decide +kernel
theorem dX12_witness_19 : decode cX12_witness 19 = .ok (.iload_n 2, 1) := by decide +kernel
theorem dX12_witness_20 : decode cX12_witness 20 = .ok (.iconst 0, 1) := by decide +kernel
theorem dX12_witness_21 : decode cX12_witness 21 = .ok (.iconst 2, 1) := by decide +kernel
theorem dX12_witness_22 : decode cX12_witness 22 = .ok (.invokestatic 104, 3) := by decide +kernel
theorem dX12_witness_25 : decode cX12_witness 25 = .ok (.ifCond .ne 8, 3) := by decide +kernel
theorem dX12_witness_28 : decode cX12_witness 28 = .ok (.aload_n 0, 1) := by decide +kernel
theorem dX12_witness_29 : decode cX12_witness 29 = .ok (.invokevirtual 228, 3) := by decide +kernel
theorem dX12_witness_32 : decode cX12_witness 32 = .ok (.ireturn, 1) := by decide +kernel
theorem dX12_witness_33 : decode cX12_witness 33 = .ok (.iload_n 2, 1) := by decide +kernel
theorem dX12_witness_34 : decode cX12_witness 34 = .ok (.ifCond .ne 12, 3) := by decide +kernel
theorem dX12_witness_37 : decode cX12_witness 37 = .ok (.aload_n 0, 1) := by decide +kernel
theorem dX12_witness_38 : decode cX12_witness 38 = .ok (.getfield 32, 3) := by decide +kernel
theorem dX12_witness_41 : decode cX12_witness 41 = .ok (.iload_n 1, 1) := by decide +kernel
theorem dX12_witness_42 : decode cX12_witness 42 = .ok (.iaload, 1) := by decide +kernel
theorem dX12_witness_43 : decode cX12_witness 43 = .ok (.goto 26, 3) := by decide +kernel
theorem dX12_witness_46 : decode cX12_witness 46 = .ok (.iload_n 2, 1) := by decide +kernel
theorem dX12_witness_47 : decode cX12_witness 47 = .ok (.iconst 1, 1) := by decide +kernel
theorem dX12_witness_48 : decode cX12_witness 48 = .ok (.if_icmp .ne 15, 3) := by decide +kernel
theorem dX12_witness_51 : decode cX12_witness 51 = .ok (.aload_n 0, 1) := by decide +kernel
theorem dX12_witness_52 : decode cX12_witness 52 = .ok (.getfield 9, 3) := by decide +kernel
theorem dX12_witness_55 : decode cX12_witness 55 = .ok (.bipush 18, 2) := by decide +kernel
theorem dX12_witness_57 : decode cX12_witness 57 = .ok (.iload_n 1, 1) := by decide +kernel
theorem dX12_witness_58 : decode cX12_witness 58 = .ok (.iadd, 1) := by decide +kernel
theorem dX12_witness_59 : decode cX12_witness 59 = .ok (.iaload, 1) := by decide +kernel
theorem dX12_witness_60 : decode cX12_witness 60 = .ok (.goto 9, 3) := by decide +kernel
theorem dX12_witness_63 : decode cX12_witness 63 = .ok (.aload_n 0, 1) := by decide +kernel
theorem dX12_witness_64 : decode cX12_witness 64 = .ok (.getfield 35, 3) := by decide +kernel
theorem dX12_witness_67 : decode cX12_witness 67 = .ok (.iload_n 1, 1) := by decide +kernel
theorem dX12_witness_68 : decode cX12_witness 68 = .ok (.iaload, 1) := by decide +kernel
theorem dX12_witness_69 : decode cX12_witness 69 = .ok (.ireturn, 1) := by decide +kernel
theorem dX11_ends_0 : decode cX11_ends 0 = .ok (.iload_n 1, 1) := by decide +kernel
theorem dX11_ends_1 : decode cX11_ends 1 = .ok (.aload_n 0, 1) := by decide +kernel
theorem dX11_ends_2 : decode cX11_ends 2 = .ok (.getfield 65, 3) := by decide +kernel
theorem dX11_ends_5 : decode cX11_ends 5 = .ok (.getfield 206, 3) := by decide +kernel
theorem dX11_ends_8 : decode cX11_ends 8 = .ok (.if_icmp .le 9, 3) := by decide +kernel
theorem dX11_ends_11 : decode cX11_ends 11 = .ok (.iload_n 1, 1) := by decide +kernel
theorem dX11_ends_12 : decode cX11_ends 12 = .ok (.bipush 99, 2) := by decide +kernel
theorem dX11_ends_14 : decode cX11_ends 14 = .ok (.if_icmp .le 5, 3) := by decide +kernel
theorem dX11_ends_17 : decode cX11_ends 17 = .ok (.iconst (-1), 1) := by decide +kernel
theorem dX11_ends_18 : decode cX11_ends 18 = .ok (.ireturn, 1) := by decide +kernel
theorem dX11_ends_19 : decode cX11_ends 19 = .ok (.aload_n 0, 1) := by decide +kernel
theorem dX11_ends_20 : decode cX11_ends 20 = .ok (.getfield 100, 3) := by decide +kernel
theorem dX11_ends_23 : decode cX11_ends 23 = .ok (.istore_n 2, 1) := by decide +kernel
theorem dX11_ends_24 : decode cX11_ends 24 = .ok (.aload_n 0, 1) := by decide +kernel
theorem dX11_ends_25 : decode cX11_ends 25 = .ok (.iload_n 1, 1) := by decide +kernel
theorem dX11_ends_26 : decode cX11_ends 26 = .ok (.putfield 100, 3) := by decide +kernel
theorem dX11_ends_29 : decode cX11_ends 29 = .ok (.iload_n 2, 1) := by decide +kernel
theorem dX11_ends_30 : decode cX11_ends 30 = .ok (.ireturn, 1) := by decide +kernel
theorem dX12_ends_0 : decode cX12_ends 0 = .ok (.aload_n 0, 1) := by decide +kernel
theorem dX12_ends_1 : decode cX12_ends 1 = .ok (.iconst 0, 1) := by decide +kernel
theorem dX12_ends_2 : decode cX12_ends 2 = .ok (.putfield 95, 3) := by decide +kernel
theorem dX12_ends_5 : decode cX12_ends 5 = .ok (.iload_n 1, 1) := by decide +kernel
theorem dX12_ends_6 : decode cX12_ends 6 = .ok (.aload_n 0, 1) := by decide +kernel
theorem dX12_ends_7 : decode cX12_ends 7 = .ok (.getfield 9, 3) := by decide +kernel
theorem dX12_ends_10 : decode cX12_ends 10 = .ok (.bipush 26, 2) := by decide +kernel
theorem dX12_ends_12 : decode cX12_ends 12 = .ok (.iaload, 1) := by decide +kernel
theorem dX12_ends_13 : decode cX12_ends 13 = .ok (.if_icmp .le 9, 3) := by decide +kernel
theorem dX12_ends_16 : decode cX12_ends 16 = .ok (.iload_n 1, 1) := by decide +kernel
theorem dX12_ends_17 : decode cX12_ends 17 = .ok (.bipush 99, 2) := by decide +kernel
theorem dX12_ends_19 : decode cX12_ends 19 = .ok (.if_icmp .le 5, 3) := by decide +kernel
theorem dX12_ends_22 : decode cX12_ends 22 = .ok (.iconst (-1), 1) := by decide +kernel
theorem dX12_ends_23 : decode cX12_ends 23 = .ok (.ireturn, 1) := by decide +kernel
theorem dX12_ends_24 : decode cX12_ends 24 = .ok (.aload_n 0, 1) := by decide +kernel
theorem dX12_ends_25 : decode cX12_ends 25 = .ok (.getfield 41, 3) := by decide +kernel
theorem dX12_ends_28 : decode cX12_ends 28 = .ok (.istore_n 2, 1) := by decide +kernel
theorem dX12_ends_29 : decode cX12_ends 29 = .ok (.aload_n 0, 1) := by decide +kernel
theorem dX12_ends_30 : decode cX12_ends 30 = .ok (.iload_n 1, 1) := by decide +kernel
theorem dX12_ends_31 : decode cX12_ends 31 = .ok (.putfield 41, 3) := by decide +kernel
theorem dX12_ends_34 : decode cX12_ends 34 = .ok (.iload_n 2, 1) := by decide +kernel
theorem dX12_ends_35 : decode cX12_ends 35 = .ok (.ireturn, 1) := by decide +kernel
theorem dX11_fearOnSheet_0 : decode cX11_fearOnSheet 0 = .ok (.iload_n 1, 1) := by decide +kernel
theorem dX11_fearOnSheet_1 : decode cX11_fearOnSheet 1 = .ok (.istore_n 2, 1) := by decide +kernel
theorem dX11_fearOnSheet_2 : decode cX11_fearOnSheet 2 = .ok (.iload_n 0, 1) := by decide +kernel
theorem dX11_fearOnSheet_3 : decode cX11_fearOnSheet 3 = .ok (.ifCond .ne 9, 3) := by decide +kernel
theorem dX11_fearOnSheet_6 : decode cX11_fearOnSheet 6 = .ok (.iload_n 1, 1) := by decide +kernel
theorem dX11_fearOnSheet_7 : decode cX11_fearOnSheet 7 = .ok (.i2b, 1) := by decide +kernel
theorem dX11_fearOnSheet_8 : decode cX11_fearOnSheet 8 = .ok (.istore_n 2, 1) := by decide +kernel
theorem dX11_fearOnSheet_9 : decode cX11_fearOnSheet 9 = .ok (.goto 11, 3) := by decide +kernel
theorem dX11_fearOnSheet_12 : decode cX11_fearOnSheet 12 = .ok (.iload_n 0, 1) := by decide +kernel
theorem dX11_fearOnSheet_13 : decode cX11_fearOnSheet 13 = .ok (.iconst 1, 1) := by decide +kernel
theorem dX11_fearOnSheet_14 : decode cX11_fearOnSheet 14 = .ok (.if_icmp .ne 6, 3) := by decide +kernel
theorem dX11_fearOnSheet_17 : decode cX11_fearOnSheet 17 = .ok (.iload_n 1, 1) := by decide +kernel
theorem dX11_fearOnSheet_18 : decode cX11_fearOnSheet 18 = .ok (.i2s, 1) := by decide +kernel
theorem dX11_fearOnSheet_19 : decode cX11_fearOnSheet 19 = .ok (.istore_n 2, 1) := by decide +kernel
theorem dX11_fearOnSheet_20 : decode cX11_fearOnSheet 20 = .ok (.iconst 0, 1) := by decide +kernel
theorem dX11_fearOnSheet_21 : decode cX11_fearOnSheet 21 = .ok (.bipush 99, 2) := by decide +kernel
theorem dX11_fearOnSheet_23 : decode cX11_fearOnSheet 23 = .ok (.iload_n 2, 1) := by decide +kernel
theorem dX11_fearOnSheet_24 : decode cX11_fearOnSheet 24 = .ok (.invokestatic 418, 3) := by decide +kernel
theorem dX11_fearOnSheet_27 : decode cX11_fearOnSheet 27 = .ok (.invokestatic 378, 3) := by decide +kernel
theorem dX11_fearOnSheet_30 : decode cX11_fearOnSheet 30 = .ok (.ireturn, 1) := by decide +kernel
theorem dX11_sheet_0 : decode cX11_sheet 0 = .ok (.iload_n 1, 1) := by decide +kernel
theorem dX11_sheet_1 : decode cX11_sheet 1 = .ok (.ifCond .lt 14, 3) := by decide +kernel
theorem dX11_sheet_4 : decode cX11_sheet 4 = .ok (.iload_n 1, 1) := by decide +kernel
theorem dX11_sheet_5 : decode cX11_sheet 5 = .ok (.iconst 3, 1) := by decide +kernel
theorem dX11_sheet_6 : decode cX11_sheet 6 = .ok (.if_icmp .gt 9, 3) := by decide +kernel
theorem dX11_sheet_9 : decode cX11_sheet 9 = .ok (.iload_n 2, 1) := by decide +kernel
theorem dX11_sheet_10 : decode cX11_sheet 10 = .ok (.bipush 6, 2) := by decide +kernel
theorem dX11_sheet_12 : decode cX11_sheet 12 = .ok (.if_icmp .le 5, 3) := by decide +kernel
theorem dX11_sheet_15 : decode cX11_sheet 15 = .ok (.iconst (-1), 1) := by decide +kernel
theorem dX11_sheet_16 : decode cX11_sheet 16 = .ok (.ireturn, 1) := by decide +kernel
theorem dX11_sheet_17 : decode cX11_sheet 17 = .ok (.iload_n 1, 1) := by decide +kernel
theorem dX11_sheet_18 : decode cX11_sheet 18 = .ok (.iconst 3, 1) := by decide +kernel
theorem dX11_sheet_19 : decode cX11_sheet 19 = .ok (.if_icmp .ne 7, 3) := by decide +kernel
theorem dX11_sheet_22 : decode cX11_sheet 22 = .ok (.iconst 1, 1) := by decide +kernel
theorem dX11_sheet_23 : decode cX11_sheet 23 = .ok (.goto 4, 3) := by decide +kernel
theorem dX11_sheet_26 : decode cX11_sheet 26 = .ok (.iconst 0, 1) := by decide +kernel
theorem dX11_sheet_27 : decode cX11_sheet 27 = .ok (.istore 5, 2) := by decide +kernel
theorem dX11_sheet_29 : decode cX11_sheet 29 = .ok (.iload 5, 2) := by decide +kernel
theorem dX11_sheet_31 : decode cX11_sheet 31 = .ok (.ifCond .ne 10, 3) := by decide +kernel
theorem dX11_sheet_34 : decode cX11_sheet 34 = .ok (.iload_n 2, 1) := by decide +kernel
theorem dX11_sheet_35 : decode cX11_sheet 35 = .ok (.ifCond .ge 6, 3) := by decide +kernel
theorem dX11_sheet_38 : decode cX11_sheet 38 = .ok (.bipush (-2), 2) := by decide +kernel
theorem dX11_sheet_40 : decode cX11_sheet 40 = .ok (.ireturn, 1) := by decide +kernel
theorem dX11_sheet_41 : decode cX11_sheet 41 = .ok (.iconst 0, 1) := by decide +kernel
theorem dX11_sheet_42 : decode cX11_sheet 42 = .ok (.istore 6, 2) := by decide +kernel
theorem dX11_sheet_44 : decode cX11_sheet 44 = .ok (.iconst 0, 1) := by decide +kernel
theorem dX11_sheet_45 : decode cX11_sheet 45 = .ok (.istore 7, 2) := by decide +kernel
theorem dX11_sheet_47 : decode cX11_sheet 47 = .ok (.iload 7, 2) := by decide +kernel
theorem dX11_sheet_49 : decode cX11_sheet 49 = .ok (.aload_n 0, 1) := by decide +kernel
theorem dX11_sheet_50 : decode cX11_sheet 50 = .ok (.getfield 26, 3) := by decide +kernel
theorem dX11_sheet_53 : decode cX11_sheet 53 = .ok (.getfield 119, 3) := by decide +kernel
theorem dX11_sheet_56 : decode cX11_sheet 56 = .ok (.if_icmp .ge 72, 3) := by decide +kernel
theorem dX11_sheet_59 : decode cX11_sheet 59 = .ok (.iload 5, 2) := by decide +kernel
theorem dX11_sheet_61 : decode cX11_sheet 61 = .ok (.ifCond .ne 13, 3) := by decide +kernel
theorem dX11_sheet_64 : decode cX11_sheet 64 = .ok (.iload 7, 2) := by decide +kernel
theorem dX11_sheet_66 : decode cX11_sheet 66 = .ok (.iload_n 2, 1) := by decide +kernel
theorem dX11_sheet_67 : decode cX11_sheet 67 = .ok (.if_icmp .ge 7, 3) := by decide +kernel
theorem dX11_sheet_70 : decode cX11_sheet 70 = .ok (.iconst 1, 1) := by decide +kernel
theorem dX11_sheet_71 : decode cX11_sheet 71 = .ok (.goto 4, 3) := by decide +kernel
theorem dX11_sheet_74 : decode cX11_sheet 74 = .ok (.iconst 0, 1) := by decide +kernel
theorem dX11_sheet_75 : decode cX11_sheet 75 = .ok (.istore 8, 2) := by decide +kernel
theorem dX11_sheet_77 : decode cX11_sheet 77 = .ok (.aload_n 0, 1) := by decide +kernel
theorem dX11_sheet_78 : decode cX11_sheet 78 = .ok (.getfield 26, 3) := by decide +kernel
theorem dX11_sheet_81 : decode cX11_sheet 81 = .ok (.getfield 160, 3) := by decide +kernel
theorem dX11_sheet_84 : decode cX11_sheet 84 = .ok (.iload 7, 2) := by decide +kernel
theorem dX11_sheet_86 : decode cX11_sheet 86 = .ok (.iload 8, 2) := by decide +kernel
theorem dX11_sheet_88 : decode cX11_sheet 88 = .ok (.ifCond .eq 17, 3) := by decide +kernel
theorem dX11_sheet_91 : decode cX11_sheet 91 = .ok (.iload_n 1, 1) := by decide +kernel
theorem dX11_sheet_92 : decode cX11_sheet 92 = .ok (.iload_n 3, 1) := by decide +kernel
theorem dX11_sheet_93 : decode cX11_sheet 93 = .ok (.iload 7, 2) := by decide +kernel
theorem dX11_sheet_95 : decode cX11_sheet 95 = .ok (.iload 4, 2) := by decide +kernel
theorem dX11_sheet_97 : decode cX11_sheet 97 = .ok (.imul, 1) := by decide +kernel
theorem dX11_sheet_98 : decode cX11_sheet 98 = .ok (.iadd, 1) := by decide +kernel
theorem dX11_sheet_99 : decode cX11_sheet 99 = .ok (.invokestatic 209, 3) := by decide +kernel
theorem dX11_sheet_102 : decode cX11_sheet 102 = .ok (.goto 4, 3) := by decide +kernel
theorem dX11_sheet_105 : decode cX11_sheet 105 = .ok (.iconst 0, 1) := by decide +kernel
theorem dX11_sheet_106 : decode cX11_sheet 106 = .ok (.iastore, 1) := by decide +kernel
theorem dX11_sheet_107 : decode cX11_sheet 107 = .ok (.iload 6, 2) := by decide +kernel
theorem dX11_sheet_109 : decode cX11_sheet 109 = .ok (.aload_n 0, 1) := by decide +kernel
theorem dX11_sheet_110 : decode cX11_sheet 110 = .ok (.getfield 26, 3) := by decide +kernel
theorem dX11_sheet_113 : decode cX11_sheet 113 = .ok (.getfield 160, 3) := by decide +kernel
theorem dX11_sheet_116 : decode cX11_sheet 116 = .ok (.iload 7, 2) := by decide +kernel
theorem dX11_sheet_118 : decode cX11_sheet 118 = .ok (.iaload, 1) := by decide +kernel
theorem dX11_sheet_119 : decode cX11_sheet 119 = .ok (.iadd, 1) := by decide +kernel
theorem dX11_sheet_120 : decode cX11_sheet 120 = .ok (.istore 6, 2) := by decide +kernel
theorem dX11_sheet_122 : decode cX11_sheet 122 = .ok (.iinc 7 1, 3) := by decide +kernel
theorem dX11_sheet_125 : decode cX11_sheet 125 = .ok (.goto (-78), 3) := by decide +kernel
theorem dX11_sheet_128 : decode cX11_sheet 128 = .ok (.iload 5, 2) := by decide +kernel
theorem dX11_sheet_130 : decode cX11_sheet 130 = .ok (.ifCond .eq 8, 3) := by decide +kernel
theorem dX11_sheet_133 : decode cX11_sheet 133 = .ok (.bipush (-3), 2) := by decide +kernel
theorem dX11_sheet_135 : decode cX11_sheet 135 = .ok (.goto 5, 3) := by decide +kernel
theorem dX11_sheet_138 : decode cX11_sheet 138 = .ok (.iload 6, 2) := by decide +kernel
theorem dX11_sheet_140 : decode cX11_sheet 140 = .ok (.ireturn, 1) := by decide +kernel
theorem dX12_sheet_0 : decode cX12_sheet 0 = .ok (.aload_n 0, 1) := by decide +kernel
theorem dX12_sheet_1 : decode cX12_sheet 1 = .ok (.iconst 0, 1) := by decide +kernel
theorem dX12_sheet_2 : decode cX12_sheet 2 = .ok (.putfield 95, 3) := by decide +kernel
theorem dX12_sheet_5 : decode cX12_sheet 5 = .ok (.iload_n 1, 1) := by decide +kernel
theorem dX12_sheet_6 : decode cX12_sheet 6 = .ok (.iconst 0, 1) := by decide +kernel
theorem dX12_sheet_7 : decode cX12_sheet 7 = .ok (.iconst 3, 1) := by decide +kernel
theorem dX12_sheet_8 : decode cX12_sheet 8 = .ok (.invokestatic 104, 3) := by decide +kernel
theorem dX12_sheet_11 : decode cX12_sheet 11 = .ok (.ifCond .eq 9, 3) := by decide +kernel
theorem dX12_sheet_14 : decode cX12_sheet 14 = .ok (.iload_n 2, 1) := by decide +kernel
theorem dX12_sheet_15 : decode cX12_sheet 15 = .ok (.bipush 6, 2) := by decide +kernel
theorem dX12_sheet_17 : decode cX12_sheet 17 = .ok (.if_icmp .le 5, 3) := by decide +kernel
theorem dX12_sheet_20 : decode cX12_sheet 20 = .ok (.iconst (-1), 1) := by decide +kernel
theorem dX12_sheet_21 : decode cX12_sheet 21 = .ok (.ireturn, 1) := by decide +kernel
theorem dX12_sheet_22 : decode cX12_sheet 22 = .ok (.iload_n 1, 1) := by decide +kernel
theorem dX12_sheet_23 : decode cX12_sheet 23 = .ok (.iconst 3, 1) := by decide +kernel
theorem dX12_sheet_24 : decode cX12_sheet 24 = .ok (.if_icmp .ge 10, 3) := by decide +kernel
theorem dX12_sheet_27 : decode cX12_sheet 27 = .ok (.iload_n 2, 1) := by decide +kernel
theorem dX12_sheet_28 : decode cX12_sheet 28 = .ok (.ifCond .ge 6, 3) := by decide +kernel
theorem dX12_sheet_31 : decode cX12_sheet 31 = .ok (.bipush (-2), 2) := by decide +kernel
theorem dX12_sheet_33 : decode cX12_sheet 33 = .ok (.ireturn, 1) := by decide +kernel
theorem dX12_sheet_34 : decode cX12_sheet 34 = .ok (.iconst 0, 1) := by decide +kernel
theorem dX12_sheet_35 : decode cX12_sheet 35 = .ok (.istore 5, 2) := by decide +kernel
theorem dX12_sheet_37 : decode cX12_sheet 37 = .ok (.iload_n 3, 1) := by decide +kernel
theorem dX12_sheet_38 : decode cX12_sheet 38 = .ok (.istore 6, 2) := by decide +kernel
theorem dX12_sheet_40 : decode cX12_sheet 40 = .ok (.iconst 0, 1) := by decide +kernel
theorem dX12_sheet_41 : decode cX12_sheet 41 = .ok (.istore 7, 2) := by decide +kernel
theorem dX12_sheet_43 : decode cX12_sheet 43 = .ok (.iload 7, 2) := by decide +kernel
theorem dX12_sheet_45 : decode cX12_sheet 45 = .ok (.aload_n 0, 1) := by decide +kernel
theorem dX12_sheet_46 : decode cX12_sheet 46 = .ok (.getfield 101, 3) := by decide +kernel
theorem dX12_sheet_49 : decode cX12_sheet 49 = .ok (.if_icmp .ge 86, 3) := by decide +kernel
theorem dX12_sheet_52 : decode cX12_sheet 52 = .ok (.iload_n 1, 1) := by decide +kernel
theorem dX12_sheet_53 : decode cX12_sheet 53 = .ok (.ifCond .ne 9, 3) := by decide +kernel
theorem dX12_sheet_56 : decode cX12_sheet 56 = .ok (.iload 6, 2) := by decide +kernel
theorem dX12_sheet_58 : decode cX12_sheet 58 = .ok (.i2b, 1) := by decide +kernel
theorem dX12_sheet_59 : decode cX12_sheet 59 = .ok (.goto 16, 3) := by decide +kernel
theorem dX12_sheet_62 : decode cX12_sheet 62 = .ok (.iload_n 1, 1) := by decide +kernel
theorem dX12_sheet_63 : decode cX12_sheet 63 = .ok (.iconst 1, 1) := by decide +kernel
theorem dX12_sheet_64 : decode cX12_sheet 64 = .ok (.if_icmp .ne 9, 3) := by decide +kernel
theorem dX12_sheet_67 : decode cX12_sheet 67 = .ok (.iload 6, 2) := by decide +kernel
theorem dX12_sheet_69 : decode cX12_sheet 69 = .ok (.i2s, 1) := by decide +kernel
theorem dX12_sheet_70 : decode cX12_sheet 70 = .ok (.goto 5, 3) := by decide +kernel
theorem dX12_sheet_73 : decode cX12_sheet 73 = .ok (.iload 6, 2) := by decide +kernel
theorem dX12_sheet_75 : decode cX12_sheet 75 = .ok (.istore 8, 2) := by decide +kernel
theorem dX12_sheet_77 : decode cX12_sheet 77 = .ok (.aload_n 0, 1) := by decide +kernel
theorem dX12_sheet_78 : decode cX12_sheet 78 = .ok (.getfield 16, 3) := by decide +kernel
theorem dX12_sheet_81 : decode cX12_sheet 81 = .ok (.iload 7, 2) := by decide +kernel
theorem dX12_sheet_83 : decode cX12_sheet 83 = .ok (.iload_n 1, 1) := by decide +kernel
theorem dX12_sheet_84 : decode cX12_sheet 84 = .ok (.iconst 3, 1) := by decide +kernel
theorem dX12_sheet_85 : decode cX12_sheet 85 = .ok (.if_icmp .eq 9, 3) := by decide +kernel
theorem dX12_sheet_88 : decode cX12_sheet 88 = .ok (.iload 7, 2) := by decide +kernel
theorem dX12_sheet_90 : decode cX12_sheet 90 = .ok (.iload_n 2, 1) := by decide +kernel
theorem dX12_sheet_91 : decode cX12_sheet 91 = .ok (.if_icmp .lt 7, 3) := by decide +kernel
theorem dX12_sheet_94 : decode cX12_sheet 94 = .ok (.iconst 0, 1) := by decide +kernel
theorem dX12_sheet_95 : decode cX12_sheet 95 = .ok (.goto 14, 3) := by decide +kernel
theorem dX12_sheet_98 : decode cX12_sheet 98 = .ok (.iconst 0, 1) := by decide +kernel
theorem dX12_sheet_99 : decode cX12_sheet 99 = .ok (.bipush 99, 2) := by decide +kernel
theorem dX12_sheet_101 : decode cX12_sheet 101 = .ok (.iload 8, 2) := by decide +kernel
theorem dX12_sheet_103 : decode cX12_sheet 103 = .ok (.invokestatic 212, 3) := by decide +kernel
theorem dX12_sheet_106 : decode cX12_sheet 106 = .ok (.invokestatic 217, 3) := by decide +kernel
theorem dX12_sheet_109 : decode cX12_sheet 109 = .ok (.iastore, 1) := by decide +kernel
theorem dX12_sheet_110 : decode cX12_sheet 110 = .ok (.iload 5, 2) := by decide +kernel
theorem dX12_sheet_112 : decode cX12_sheet 112 = .ok (.aload_n 0, 1) := by decide +kernel
theorem dX12_sheet_113 : decode cX12_sheet 113 = .ok (.getfield 16, 3) := by decide +kernel
theorem dX12_sheet_116 : decode cX12_sheet 116 = .ok (.iload 7, 2) := by decide +kernel
theorem dX12_sheet_118 : decode cX12_sheet 118 = .ok (.iaload, 1) := by decide +kernel
theorem dX12_sheet_119 : decode cX12_sheet 119 = .ok (.iadd, 1) := by decide +kernel
theorem dX12_sheet_120 : decode cX12_sheet 120 = .ok (.istore 5, 2) := by decide +kernel
theorem dX12_sheet_122 : decode cX12_sheet 122 = .ok (.iload 6, 2) := by decide +kernel
theorem dX12_sheet_124 : decode cX12_sheet 124 = .ok (.iload 4, 2) := by decide +kernel
theorem dX12_sheet_126 : decode cX12_sheet 126 = .ok (.iadd, 1) := by decide +kernel
theorem dX12_sheet_127 : decode cX12_sheet 127 = .ok (.istore 6, 2) := by decide +kernel
theorem dX12_sheet_129 : decode cX12_sheet 129 = .ok (.iinc 7 1, 3) := by decide +kernel
theorem dX12_sheet_132 : decode cX12_sheet 132 = .ok (.goto (-89), 3) := by decide +kernel
theorem dX12_sheet_135 : decode cX12_sheet 135 = .ok (.iload_n 1, 1) := by decide +kernel
theorem dX12_sheet_136 : decode cX12_sheet 136 = .ok (.iconst 3, 1) := by decide +kernel
theorem dX12_sheet_137 : decode cX12_sheet 137 = .ok (.if_icmp .ne 8, 3) := by decide +kernel
theorem dX12_sheet_140 : decode cX12_sheet 140 = .ok (.bipush (-3), 2) := by decide +kernel
theorem dX12_sheet_142 : decode cX12_sheet 142 = .ok (.goto 5, 3) := by decide +kernel
theorem dX12_sheet_145 : decode cX12_sheet 145 = .ok (.iload 5, 2) := by decide +kernel
theorem dX12_sheet_147 : decode cX12_sheet 147 = .ok (.ireturn, 1) := by decide +kernel
theorem dX6_seal_0 : decode cX6_seal 0 = .ok (.aload_n 0, 1) := by decide +kernel
theorem dX6_seal_1 : decode cX6_seal 1 = .ok (.aload_n 0, 1) := by decide +kernel
theorem dX6_seal_2 : decode cX6_seal 2 = .ok (.getfield 15, 3) := by decide +kernel
theorem dX6_seal_5 : decode cX6_seal 5 = .ok (.iconst 1, 1) := by decide +kernel
theorem dX6_seal_6 : decode cX6_seal 6 = .ok (.iadd, 1) := by decide +kernel
theorem dX6_seal_7 : decode cX6_seal 7 = .ok (.bipush 13, 2) := by decide +kernel
theorem dX6_seal_9 : decode cX6_seal 9 = .ok (.irem, 1) := by decide +kernel
theorem dX6_seal_10 : decode cX6_seal 10 = .ok (.putfield 15, 3) := by decide +kernel
theorem dX6_seal_13 : decode cX6_seal 13 = .ok (.aload_n 0, 1) := by decide +kernel
theorem dX6_seal_14 : decode cX6_seal 14 = .ok (.bipush 12, 2) := by decide +kernel
theorem dX6_seal_16 : decode cX6_seal 16 = .ok (.aload_n 0, 1) := by decide +kernel
theorem dX6_seal_17 : decode cX6_seal 17 = .ok (.getfield 19, 3) := by decide +kernel
theorem dX6_seal_20 : decode cX6_seal 20 = .ok (.iconst 1, 1) := by decide +kernel
theorem dX6_seal_21 : decode cX6_seal 21 = .ok (.iadd, 1) := by decide +kernel
theorem dX6_seal_22 : decode cX6_seal 22 = .ok (.invokestatic 29, 3) := by decide +kernel
theorem dX6_seal_25 : decode cX6_seal 25 = .ok (.putfield 19, 3) := by decide +kernel
theorem dX6_seal_28 : decode cX6_seal 28 = .ok (.return_, 1) := by decide +kernel
theorem dX11_doneBy_0 : decode cX11_doneBy 0 = .ok (.iload_n 1, 1) := by decide +kernel
theorem dX11_doneBy_1 : decode cX11_doneBy 1 = .ok (.ifCond .lt 10, 3) := by decide +kernel
theorem dX11_doneBy_4 : decode cX11_doneBy 4 = .ok (.aload_n 0, 1) := by decide +kernel
theorem dX11_doneBy_5 : decode cX11_doneBy 5 = .ok (.getfield 75, 3) := by decide +kernel
theorem dX11_doneBy_8 : decode cX11_doneBy 8 = .ok (.invokevirtual 235, 3) := by decide +kernel
theorem dX11_doneBy_11 : decode cX11_doneBy 11 = .ok (.iload_n 1, 1) := by decide +kernel
theorem dX11_doneBy_12 : decode cX11_doneBy 12 = .ok (.ireturn, 1) := by decide +kernel
theorem dX4_has_0 : decode cX4_has 0 = .ok (.iload_n 1, 1) := by decide +kernel
theorem dX4_has_1 : decode cX4_has 1 = .ok (.ifCond .lt 18, 3) := by decide +kernel
theorem dX4_has_4 : decode cX4_has 4 = .ok (.iload_n 1, 1) := by decide +kernel
theorem dX4_has_5 : decode cX4_has 5 = .ok (.aload_n 0, 1) := by decide +kernel
theorem dX4_has_6 : decode cX4_has 6 = .ok (.getfield 31, 3) := by decide +kernel
theorem dX4_has_9 : decode cX4_has 9 = .ok (.getfield 54, 3) := by decide +kernel
theorem dX4_has_12 : decode cX4_has 12 = .ok (.if_icmp .ge 7, 3) := by decide +kernel
theorem dX4_has_15 : decode cX4_has 15 = .ok (.iconst 1, 1) := by decide +kernel
theorem dX4_has_16 : decode cX4_has 16 = .ok (.goto 4, 3) := by decide +kernel
theorem dX4_has_19 : decode cX4_has 19 = .ok (.iconst 0, 1) := by decide +kernel
theorem dX4_has_20 : decode cX4_has 20 = .ok (.ireturn, 1) := by decide +kernel
theorem dX4_isSilent_0 : decode cX4_isSilent 0 = .ok (.aload_n 0, 1) := by decide +kernel
theorem dX4_isSilent_1 : decode cX4_isSilent 1 = .ok (.getfield 9, 3) := by decide +kernel
theorem dX4_isSilent_4 : decode cX4_isSilent 4 = .ok (.iload_n 1, 1) := by decide +kernel
theorem dX4_isSilent_5 : decode cX4_isSilent 5 = .ok (.iaload, 1) := by decide +kernel
theorem dX4_isSilent_6 : decode cX4_isSilent 6 = .ok (.ifCond .ne 7, 3) := by decide +kernel
theorem dX4_isSilent_9 : decode cX4_isSilent 9 = .ok (.iconst 1, 1) := by decide +kernel
theorem dX4_isSilent_10 : decode cX4_isSilent 10 = .ok (.goto 4, 3) := by decide +kernel
theorem dX4_isSilent_13 : decode cX4_isSilent 13 = .ok (.iconst 0, 1) := by decide +kernel
theorem dX4_isSilent_14 : decode cX4_isSilent 14 = .ok (.ireturn, 1) := by decide +kernel
theorem dX4_layOn_0 : decode cX4_layOn 0 = .ok (.aload_n 0, 1) := by decide +kernel
theorem dX4_layOn_1 : decode cX4_layOn 1 = .ok (.iload_n 1, 1) := by decide +kernel
theorem dX4_layOn_2 : decode cX4_layOn 2 = .ok (.invokevirtual 59, 3) := by decide +kernel
theorem dX4_layOn_5 : decode cX4_layOn 5 = .ok (.ifCond .eq 19, 3) := by decide +kernel
theorem dX4_layOn_8 : decode cX4_layOn 8 = .ok (.iload_n 2, 1) := by decide +kernel
theorem dX4_layOn_9 : decode cX4_layOn 9 = .ok (.ifCond .eq 15, 3) := by decide +kernel
theorem dX4_layOn_12 : decode cX4_layOn 12 = .ok (.iload_n 2, 1) := by decide +kernel
theorem dX4_layOn_13 : decode cX4_layOn 13 = .ok (.bipush (-50), 2) := by decide +kernel
theorem dX4_layOn_15 : decode cX4_layOn 15 = .ok (.if_icmp .lt 9, 3) := by decide +kernel
theorem dX4_layOn_18 : decode cX4_layOn 18 = .ok (.iload_n 2, 1) := by decide +kernel
theorem dX4_layOn_19 : decode cX4_layOn 19 = .ok (.bipush 50, 2) := by decide +kernel
theorem dX4_layOn_21 : decode cX4_layOn 21 = .ok (.if_icmp .le 5, 3) := by decide +kernel
theorem dX4_layOn_24 : decode cX4_layOn 24 = .ok (.iconst (-1), 1) := by decide +kernel
theorem dX4_layOn_25 : decode cX4_layOn 25 = .ok (.ireturn, 1) := by decide +kernel
theorem dX4_layOn_26 : decode cX4_layOn 26 = .ok (.aload_n 0, 1) := by decide +kernel
theorem dX4_layOn_27 : decode cX4_layOn 27 = .ok (.iload_n 1, 1) := by decide +kernel
theorem dX4_layOn_28 : decode cX4_layOn 28 = .ok (.invokevirtual 63, 3) := by decide +kernel
theorem dX4_layOn_31 : decode cX4_layOn 31 = .ok (.ifCond .ne 6, 3) := by decide +kernel
theorem dX4_layOn_34 : decode cX4_layOn 34 = .ok (.bipush (-2), 2) := by decide +kernel
theorem dX4_layOn_36 : decode cX4_layOn 36 = .ok (.ireturn, 1) := by decide +kernel
theorem dX4_layOn_37 : decode cX4_layOn 37 = .ok (.aload_n 0, 1) := by decide +kernel
theorem dX4_layOn_38 : decode cX4_layOn 38 = .ok (.getfield 15, 3) := by decide +kernel
theorem dX4_layOn_41 : decode cX4_layOn 41 = .ok (.iload_n 1, 1) := by decide +kernel
theorem dX4_layOn_42 : decode cX4_layOn 42 = .ok (.iconst 0, 1) := by decide +kernel
theorem dX4_layOn_43 : decode cX4_layOn 43 = .ok (.bipush 99, 2) := by decide +kernel
theorem dX4_layOn_45 : decode cX4_layOn 45 = .ok (.aload_n 0, 1) := by decide +kernel
theorem dX4_layOn_46 : decode cX4_layOn 46 = .ok (.getfield 15, 3) := by decide +kernel
theorem dX4_layOn_49 : decode cX4_layOn 49 = .ok (.iload_n 1, 1) := by decide +kernel
theorem dX4_layOn_50 : decode cX4_layOn 50 = .ok (.iaload, 1) := by decide +kernel
theorem dX4_layOn_51 : decode cX4_layOn 51 = .ok (.iload_n 2, 1) := by decide +kernel
theorem dX4_layOn_52 : decode cX4_layOn 52 = .ok (.iadd, 1) := by decide +kernel
theorem dX4_layOn_53 : decode cX4_layOn 53 = .ok (.invokestatic 66, 3) := by decide +kernel
theorem dX4_layOn_56 : decode cX4_layOn 56 = .ok (.invokestatic 72, 3) := by decide +kernel
theorem dX4_layOn_59 : decode cX4_layOn 59 = .ok (.iastore, 1) := by decide +kernel
theorem dX4_layOn_60 : decode cX4_layOn 60 = .ok (.aload_n 0, 1) := by decide +kernel
theorem dX4_layOn_61 : decode cX4_layOn 61 = .ok (.getfield 15, 3) := by decide +kernel
theorem dX4_layOn_64 : decode cX4_layOn 64 = .ok (.iload_n 1, 1) := by decide +kernel
theorem dX4_layOn_65 : decode cX4_layOn 65 = .ok (.iaload, 1) := by decide +kernel
theorem dX4_layOn_66 : decode cX4_layOn 66 = .ok (.ireturn, 1) := by decide +kernel
theorem dX4_take_0 : decode cX4_take 0 = .ok (.aload_n 1, 1) := by decide +kernel
theorem dX4_take_1 : decode cX4_take 1 = .ok (.getfield 9, 3) := by decide +kernel
theorem dX4_take_4 : decode cX4_take 4 = .ok (.iconst 0, 1) := by decide +kernel
theorem dX4_take_5 : decode cX4_take 5 = .ok (.aload_n 0, 1) := by decide +kernel
theorem dX4_take_6 : decode cX4_take 6 = .ok (.getfield 9, 3) := by decide +kernel
theorem dX4_take_9 : decode cX4_take 9 = .ok (.iconst 0, 1) := by decide +kernel
theorem dX4_take_10 : decode cX4_take 10 = .ok (.bipush 6, 2) := by decide +kernel
theorem dX4_take_12 : decode cX4_take 12 = .ok (.invokestatic 43, 3) := by decide +kernel
theorem dX4_take_15 : decode cX4_take 15 = .ok (.aload_n 1, 1) := by decide +kernel
theorem dX4_take_16 : decode cX4_take 16 = .ok (.getfield 15, 3) := by decide +kernel
theorem dX4_take_19 : decode cX4_take 19 = .ok (.iconst 0, 1) := by decide +kernel
theorem dX4_take_20 : decode cX4_take 20 = .ok (.aload_n 0, 1) := by decide +kernel
theorem dX4_take_21 : decode cX4_take 21 = .ok (.getfield 15, 3) := by decide +kernel
theorem dX4_take_24 : decode cX4_take 24 = .ok (.iconst 0, 1) := by decide +kernel
theorem dX4_take_25 : decode cX4_take 25 = .ok (.bipush 6, 2) := by decide +kernel
theorem dX4_take_27 : decode cX4_take 27 = .ok (.invokestatic 43, 3) := by decide +kernel
theorem dX4_take_30 : decode cX4_take 30 = .ok (.aload_n 1, 1) := by decide +kernel
theorem dX4_take_31 : decode cX4_take 31 = .ok (.getfield 18, 3) := by decide +kernel
theorem dX4_take_34 : decode cX4_take 34 = .ok (.iconst 0, 1) := by decide +kernel
theorem dX4_take_35 : decode cX4_take 35 = .ok (.aload_n 0, 1) := by decide +kernel
theorem dX4_take_36 : decode cX4_take 36 = .ok (.getfield 18, 3) := by decide +kernel
theorem dX4_take_39 : decode cX4_take 39 = .ok (.iconst 0, 1) := by decide +kernel
theorem dX4_take_40 : decode cX4_take 40 = .ok (.bipush 6, 2) := by decide +kernel
theorem dX4_take_42 : decode cX4_take 42 = .ok (.invokestatic 43, 3) := by decide +kernel
theorem dX4_take_45 : decode cX4_take 45 = .ok (.aload_n 1, 1) := by decide +kernel
theorem dX4_take_46 : decode cX4_take 46 = .ok (.getfield 21, 3) := by decide +kernel
theorem dX4_take_49 : decode cX4_take 49 = .ok (.iconst 0, 1) := by decide +kernel
theorem dX4_take_50 : decode cX4_take 50 = .ok (.aload_n 0, 1) := by decide +kernel
theorem dX4_take_51 : decode cX4_take 51 = .ok (.getfield 21, 3) := by decide +kernel
theorem dX4_take_54 : decode cX4_take 54 = .ok (.iconst 0, 1) := by decide +kernel
theorem dX4_take_55 : decode cX4_take 55 = .ok (.bipush 8, 2) := by decide +kernel
theorem dX4_take_57 : decode cX4_take 57 = .ok (.invokestatic 43, 3) := by decide +kernel
theorem dX4_take_60 : decode cX4_take 60 = .ok (.aload_n 0, 1) := by decide +kernel
theorem dX4_take_61 : decode cX4_take 61 = .ok (.aload_n 1, 1) := by decide +kernel
theorem dX4_take_62 : decode cX4_take 62 = .ok (.getfield 24, 3) := by decide +kernel
theorem dX4_take_65 : decode cX4_take 65 = .ok (.putfield 24, 3) := by decide +kernel
theorem dX4_take_68 : decode cX4_take 68 = .ok (.aload_n 0, 1) := by decide +kernel
theorem dX4_take_69 : decode cX4_take 69 = .ok (.iconst 0, 1) := by decide +kernel
theorem dX4_take_70 : decode cX4_take 70 = .ok (.putfield 28, 3) := by decide +kernel
theorem dX4_take_73 : decode cX4_take 73 = .ok (.return_, 1) := by decide +kernel
theorem dX6_note_0 : decode cX6_note 0 = .ok (.aload_n 0, 1) := by decide +kernel
theorem dX6_note_1 : decode cX6_note 1 = .ok (.getfield 11, 3) := by decide +kernel
theorem dX6_note_4 : decode cX6_note 4 = .ok (.aload_n 0, 1) := by decide +kernel
theorem dX6_note_5 : decode cX6_note 5 = .ok (.getfield 15, 3) := by decide +kernel
theorem dX6_note_8 : decode cX6_note 8 = .ok (.aaload, 1) := by decide +kernel
theorem dX6_note_9 : decode cX6_note 9 = .ok (.aload_n 1, 1) := by decide +kernel
theorem dX6_note_10 : decode cX6_note 10 = .ok (.invokevirtual 25, 3) := by decide +kernel
theorem dX6_note_13 : decode cX6_note 13 = .ok (.return_, 1) := by decide +kernel
theorem dX11_lay_0 : decode cX11_lay 0 = .ok (.aload_n 0, 1) := by decide +kernel
theorem dX11_lay_1 : decode cX11_lay 1 = .ok (.getfield 75, 3) := by decide +kernel
theorem dX11_lay_4 : decode cX11_lay 4 = .ok (.aload_n 0, 1) := by decide +kernel
theorem dX11_lay_5 : decode cX11_lay 5 = .ok (.getfield 65, 3) := by decide +kernel
theorem dX11_lay_8 : decode cX11_lay 8 = .ok (.invokevirtual 212, 3) := by decide +kernel
theorem dX11_lay_11 : decode cX11_lay 11 = .ok (.aload_n 0, 1) := by decide +kernel
theorem dX11_lay_12 : decode cX11_lay 12 = .ok (.aload_n 0, 1) := by decide +kernel
theorem dX11_lay_13 : decode cX11_lay 13 = .ok (.getfield 65, 3) := by decide +kernel
theorem dX11_lay_16 : decode cX11_lay 16 = .ok (.iload_n 1, 1) := by decide +kernel
theorem dX11_lay_17 : decode cX11_lay 17 = .ok (.iload_n 2, 1) := by decide +kernel
theorem dX11_lay_18 : decode cX11_lay 18 = .ok (.invokevirtual 216, 3) := by decide +kernel
theorem dX11_lay_21 : decode cX11_lay 21 = .ok (.invokevirtual 219, 3) := by decide +kernel
theorem dX11_lay_24 : decode cX11_lay 24 = .ok (.ireturn, 1) := by decide +kernel
theorem dX12_goLay_0 : decode cX12_goLay 0 = .ok (.aload_n 0, 1) := by decide +kernel
theorem dX12_goLay_1 : decode cX12_goLay 1 = .ok (.bipush 6, 2) := by decide +kernel
theorem dX12_goLay_3 : decode cX12_goLay 3 = .ok (.iload_n 1, 1) := by decide +kernel
theorem dX12_goLay_4 : decode cX12_goLay 4 = .ok (.iadd, 1) := by decide +kernel
theorem dX12_goLay_5 : decode cX12_goLay 5 = .ok (.iconst 0, 1) := by decide +kernel
theorem dX12_goLay_6 : decode cX12_goLay 6 = .ok (.bipush 99, 2) := by decide +kernel
theorem dX12_goLay_8 : decode cX12_goLay 8 = .ok (.aload_n 0, 1) := by decide +kernel
theorem dX12_goLay_9 : decode cX12_goLay 9 = .ok (.bipush 6, 2) := by decide +kernel
theorem dX12_goLay_11 : decode cX12_goLay 11 = .ok (.iload_n 1, 1) := by decide +kernel
theorem dX12_goLay_12 : decode cX12_goLay 12 = .ok (.iadd, 1) := by decide +kernel
theorem dX12_goLay_13 : decode cX12_goLay 13 = .ok (.iaload, 1) := by decide +kernel
theorem dX12_goLay_14 : decode cX12_goLay 14 = .ok (.iload_n 2, 1) := by decide +kernel
theorem dX12_goLay_15 : decode cX12_goLay 15 = .ok (.iadd, 1) := by decide +kernel
theorem dX12_goLay_16 : decode cX12_goLay 16 = .ok (.invokestatic 212, 3) := by decide +kernel
theorem dX12_goLay_19 : decode cX12_goLay 19 = .ok (.invokestatic 217, 3) := by decide +kernel
theorem dX12_goLay_22 : decode cX12_goLay 22 = .ok (.iastore, 1) := by decide +kernel
theorem dX12_goLay_23 : decode cX12_goLay 23 = .ok (.return_, 1) := by decide +kernel
theorem dX12_refusesLay_0 : decode cX12_refusesLay 0 = .ok (.aload_n 0, 1) := by decide +kernel
theorem dX12_refusesLay_1 : decode cX12_refusesLay 1 = .ok (.iload_n 1, 1) := by decide +kernel
theorem dX12_refusesLay_2 : decode cX12_refusesLay 2 = .ok (.invokevirtual 224, 3) := by decide +kernel
theorem dX12_refusesLay_5 : decode cX12_refusesLay 5 = .ok (.ifCond .eq 18, 3) := by decide +kernel
theorem dX12_refusesLay_8 : decode cX12_refusesLay 8 = .ok (.iload_n 2, 1) := by decide +kernel
theorem dX12_refusesLay_9 : decode cX12_refusesLay 9 = .ok (.ifCond .eq 14, 3) := by decide +kernel
theorem dX12_refusesLay_12 : decode cX12_refusesLay 12 = .ok (.iload_n 2, 1) := by decide +kernel
theorem dX12_refusesLay_13 : decode cX12_refusesLay 13 = .ok (.bipush (-50), 2) := by decide +kernel
theorem dX12_refusesLay_15 : decode cX12_refusesLay 15 = .ok (.bipush 50, 2) := by decide +kernel
theorem dX12_refusesLay_17 : decode cX12_refusesLay 17 = .ok (.invokestatic 104, 3) := by decide +kernel
theorem dX12_refusesLay_20 : decode cX12_refusesLay 20 = .ok (.ifCond .ne 5, 3) := by decide +kernel
theorem dX12_refusesLay_23 : decode cX12_refusesLay 23 = .ok (.iconst (-1), 1) := by decide +kernel
theorem dX12_refusesLay_24 : decode cX12_refusesLay 24 = .ok (.ireturn, 1) := by decide +kernel
theorem dX12_refusesLay_25 : decode cX12_refusesLay 25 = .ok (.aload_n 0, 1) := by decide +kernel
theorem dX12_refusesLay_26 : decode cX12_refusesLay 26 = .ok (.getfield 9, 3) := by decide +kernel
theorem dX12_refusesLay_29 : decode cX12_refusesLay 29 = .ok (.iload_n 1, 1) := by decide +kernel
theorem dX12_refusesLay_30 : decode cX12_refusesLay 30 = .ok (.iaload, 1) := by decide +kernel
theorem dX12_refusesLay_31 : decode cX12_refusesLay 31 = .ok (.ifCond .ne 7, 3) := by decide +kernel
theorem dX12_refusesLay_34 : decode cX12_refusesLay 34 = .ok (.iconst 0, 1) := by decide +kernel
theorem dX12_refusesLay_35 : decode cX12_refusesLay 35 = .ok (.goto 5, 3) := by decide +kernel
theorem dX12_refusesLay_38 : decode cX12_refusesLay 38 = .ok (.bipush (-2), 2) := by decide +kernel
theorem dX12_refusesLay_40 : decode cX12_refusesLay 40 = .ok (.ireturn, 1) := by decide +kernel
theorem dX12_lay_0 : decode cX12_lay 0 = .ok (.iconst 0, 1) := by decide +kernel
theorem dX12_lay_1 : decode cX12_lay 1 = .ok (.istore_n 3, 1) := by decide +kernel
theorem dX12_lay_2 : decode cX12_lay 2 = .ok (.iload_n 3, 1) := by decide +kernel
theorem dX12_lay_3 : decode cX12_lay 3 = .ok (.bipush 27, 2) := by decide +kernel
theorem dX12_lay_5 : decode cX12_lay 5 = .ok (.if_icmp .ge 17, 3) := by decide +kernel
theorem dX12_lay_8 : decode cX12_lay 8 = .ok (.aload_n 1, 1) := by decide +kernel
theorem dX12_lay_9 : decode cX12_lay 9 = .ok (.iload_n 2, 1) := by decide +kernel
theorem dX12_lay_10 : decode cX12_lay 10 = .ok (.iload_n 3, 1) := by decide +kernel
theorem dX12_lay_11 : decode cX12_lay 11 = .ok (.iadd, 1) := by decide +kernel
theorem dX12_lay_12 : decode cX12_lay 12 = .ok (.aload_n 0, 1) := by decide +kernel
theorem dX12_lay_13 : decode cX12_lay 13 = .ok (.iload_n 3, 1) := by decide +kernel
theorem dX12_lay_14 : decode cX12_lay 14 = .ok (.iaload, 1) := by decide +kernel
theorem dX12_lay_15 : decode cX12_lay 15 = .ok (.iastore, 1) := by decide +kernel
theorem dX12_lay_16 : decode cX12_lay 16 = .ok (.iinc 3 1, 3) := by decide +kernel
theorem dX12_lay_19 : decode cX12_lay 19 = .ok (.goto (-17), 3) := by decide +kernel
theorem dX12_lay_22 : decode cX12_lay 22 = .ok (.return_, 1) := by decide +kernel
theorem dX12_remember_0 : decode cX12_remember 0 = .ok (.aload_n 0, 1) := by decide +kernel
theorem dX12_remember_1 : decode cX12_remember 1 = .ok (.getfield 175, 3) := by decide +kernel
theorem dX12_remember_4 : decode cX12_remember 4 = .ok (.bipush 12, 2) := by decide +kernel
theorem dX12_remember_6 : decode cX12_remember 6 = .ok (.if_icmp .ne 43, 3) := by decide +kernel
theorem dX12_remember_9 : decode cX12_remember 9 = .ok (.iconst 0, 1) := by decide +kernel
theorem dX12_remember_10 : decode cX12_remember 10 = .ok (.istore_n 2, 1) := by decide +kernel
theorem dX12_remember_11 : decode cX12_remember 11 = .ok (.iload_n 2, 1) := by decide +kernel
theorem dX12_remember_12 : decode cX12_remember 12 = .ok (.sipush 297, 3) := by decide +kernel
theorem dX12_remember_15 : decode cX12_remember 15 = .ok (.if_icmp .ge 24, 3) := by decide +kernel
theorem dX12_remember_18 : decode cX12_remember 18 = .ok (.aload_n 0, 1) := by decide +kernel
theorem dX12_remember_19 : decode cX12_remember 19 = .ok (.getfield 62, 3) := by decide +kernel
theorem dX12_remember_22 : decode cX12_remember 22 = .ok (.iload_n 2, 1) := by decide +kernel
theorem dX12_remember_23 : decode cX12_remember 23 = .ok (.aload_n 0, 1) := by decide +kernel
theorem dX12_remember_24 : decode cX12_remember 24 = .ok (.getfield 62, 3) := by decide +kernel
theorem dX12_remember_27 : decode cX12_remember 27 = .ok (.iload_n 2, 1) := by decide +kernel
theorem dX12_remember_28 : decode cX12_remember 28 = .ok (.bipush 27, 2) := by decide +kernel
theorem dX12_remember_30 : decode cX12_remember 30 = .ok (.iadd, 1) := by decide +kernel
theorem dX12_remember_31 : decode cX12_remember 31 = .ok (.iaload, 1) := by decide +kernel
theorem dX12_remember_32 : decode cX12_remember 32 = .ok (.iastore, 1) := by decide +kernel
theorem dX12_remember_33 : decode cX12_remember 33 = .ok (.iinc 2 1, 3) := by decide +kernel
theorem dX12_remember_36 : decode cX12_remember 36 = .ok (.goto (-25), 3) := by decide +kernel
theorem dX12_remember_39 : decode cX12_remember 39 = .ok (.aload_n 0, 1) := by decide +kernel
theorem dX12_remember_40 : decode cX12_remember 40 = .ok (.dup, 1) := by decide +kernel
theorem dX12_remember_41 : decode cX12_remember 41 = .ok (.getfield 175, 3) := by decide +kernel
theorem dX12_remember_44 : decode cX12_remember 44 = .ok (.iconst 1, 1) := by decide +kernel
theorem dX12_remember_45 : decode cX12_remember 45 = .ok (.isub, 1) := by decide +kernel
theorem dX12_remember_46 : decode cX12_remember 46 = .ok (.putfield 175, 3) := by decide +kernel
theorem dX12_remember_49 : decode cX12_remember 49 = .ok (.aload_n 1, 1) := by decide +kernel
theorem dX12_remember_50 : decode cX12_remember 50 = .ok (.aload_n 0, 1) := by decide +kernel
theorem dX12_remember_51 : decode cX12_remember 51 = .ok (.getfield 62, 3) := by decide +kernel
theorem dX12_remember_54 : decode cX12_remember 54 = .ok (.bipush 27, 2) := by decide +kernel
theorem dX12_remember_56 : decode cX12_remember 56 = .ok (.aload_n 0, 1) := by decide +kernel
theorem dX12_remember_57 : decode cX12_remember 57 = .ok (.getfield 175, 3) := by decide +kernel
theorem dX12_remember_60 : decode cX12_remember 60 = .ok (.imul, 1) := by decide +kernel
theorem dX12_remember_61 : decode cX12_remember 61 = .ok (.invokestatic 242, 3) := by decide +kernel
theorem dX12_remember_64 : decode cX12_remember 64 = .ok (.aload_n 0, 1) := by decide +kernel
theorem dX12_remember_65 : decode cX12_remember 65 = .ok (.dup, 1) := by decide +kernel
theorem dX12_remember_66 : decode cX12_remember 66 = .ok (.getfield 175, 3) := by decide +kernel
theorem dX12_remember_69 : decode cX12_remember 69 = .ok (.iconst 1, 1) := by decide +kernel
theorem dX12_remember_70 : decode cX12_remember 70 = .ok (.iadd, 1) := by decide +kernel
theorem dX12_remember_71 : decode cX12_remember 71 = .ok (.putfield 175, 3) := by decide +kernel
theorem dX12_remember_74 : decode cX12_remember 74 = .ok (.return_, 1) := by decide +kernel
theorem dX12_lay__0 : decode cX12_lay_ 0 = .ok (.aload_n 0, 1) := by decide +kernel
theorem dX12_lay__1 : decode cX12_lay_ 1 = .ok (.iconst 0, 1) := by decide +kernel
theorem dX12_lay__2 : decode cX12_lay_ 2 = .ok (.putfield 95, 3) := by decide +kernel
theorem dX12_lay__5 : decode cX12_lay_ 5 = .ok (.aload_n 0, 1) := by decide +kernel
theorem dX12_lay__6 : decode cX12_lay_ 6 = .ok (.iload_n 1, 1) := by decide +kernel
theorem dX12_lay__7 : decode cX12_lay_ 7 = .ok (.iload_n 2, 1) := by decide +kernel
theorem dX12_lay__8 : decode cX12_lay_ 8 = .ok (.invokevirtual 246, 3) := by decide +kernel
theorem dX12_lay__11 : decode cX12_lay_ 11 = .ok (.istore_n 3, 1) := by decide +kernel
theorem dX12_lay__12 : decode cX12_lay_ 12 = .ok (.iload_n 3, 1) := by decide +kernel
theorem dX12_lay__13 : decode cX12_lay_ 13 = .ok (.ifCond .ge 5, 3) := by decide +kernel
theorem dX12_lay__16 : decode cX12_lay_ 16 = .ok (.iload_n 3, 1) := by decide +kernel
theorem dX12_lay__17 : decode cX12_lay_ 17 = .ok (.ireturn, 1) := by decide +kernel
theorem dX12_lay__18 : decode cX12_lay_ 18 = .ok (.aload_n 0, 1) := by decide +kernel
theorem dX12_lay__19 : decode cX12_lay_ 19 = .ok (.aload_n 0, 1) := by decide +kernel
theorem dX12_lay__20 : decode cX12_lay_ 20 = .ok (.getfield 9, 3) := by decide +kernel
theorem dX12_lay__23 : decode cX12_lay_ 23 = .ok (.invokevirtual 249, 3) := by decide +kernel
theorem dX12_lay__26 : decode cX12_lay_ 26 = .ok (.aload_n 0, 1) := by decide +kernel
theorem dX12_lay__27 : decode cX12_lay_ 27 = .ok (.getfield 9, 3) := by decide +kernel
theorem dX12_lay__30 : decode cX12_lay_ 30 = .ok (.iload_n 1, 1) := by decide +kernel
theorem dX12_lay__31 : decode cX12_lay_ 31 = .ok (.iload_n 2, 1) := by decide +kernel
theorem dX12_lay__32 : decode cX12_lay_ 32 = .ok (.invokestatic 253, 3) := by decide +kernel
theorem dX12_lay__35 : decode cX12_lay_ 35 = .ok (.aload_n 0, 1) := by decide +kernel
theorem dX12_lay__36 : decode cX12_lay_ 36 = .ok (.getfield 9, 3) := by decide +kernel
theorem dX12_lay__39 : decode cX12_lay_ 39 = .ok (.bipush 6, 2) := by decide +kernel
theorem dX12_lay__41 : decode cX12_lay_ 41 = .ok (.iload_n 1, 1) := by decide +kernel
theorem dX12_lay__42 : decode cX12_lay_ 42 = .ok (.iadd, 1) := by decide +kernel
theorem dX12_lay__43 : decode cX12_lay_ 43 = .ok (.iaload, 1) := by decide +kernel
theorem dX12_lay__44 : decode cX12_lay_ 44 = .ok (.ireturn, 1) := by decide +kernel
theorem dX8_joined_0 : decode cX8_joined 0 = .ok (.iload_n 0, 1) := by decide +kernel
theorem dX8_joined_1 : decode cX8_joined 1 = .ok (.tableswitch 100 0 6 #[43, 54, 65, 76, 80, 84, 88], 43) := by decide +kernel
theorem dX8_joined_44 : decode cX8_joined 44 = .ok (.iload_n 1, 1) := by decide +kernel
theorem dX8_joined_45 : decode cX8_joined 45 = .ok (.iload_n 2, 1) := by decide +kernel
theorem dX8_joined_46 : decode cX8_joined 46 = .ok (.if_icmp .ge 7, 3) := by decide +kernel
theorem dX8_joined_49 : decode cX8_joined 49 = .ok (.iconst 1, 1) := by decide +kernel
theorem dX8_joined_50 : decode cX8_joined 50 = .ok (.goto 4, 3) := by decide +kernel
theorem dX8_joined_53 : decode cX8_joined 53 = .ok (.iconst 0, 1) := by decide +kernel
theorem dX8_joined_54 : decode cX8_joined 54 = .ok (.ireturn, 1) := by decide +kernel
theorem dX8_joined_55 : decode cX8_joined 55 = .ok (.iload_n 1, 1) := by decide +kernel
theorem dX8_joined_56 : decode cX8_joined 56 = .ok (.iload_n 2, 1) := by decide +kernel
theorem dX8_joined_57 : decode cX8_joined 57 = .ok (.if_icmp .le 7, 3) := by decide +kernel
theorem dX8_joined_60 : decode cX8_joined 60 = .ok (.iconst 1, 1) := by decide +kernel
theorem dX8_joined_61 : decode cX8_joined 61 = .ok (.goto 4, 3) := by decide +kernel
theorem dX8_joined_64 : decode cX8_joined 64 = .ok (.iconst 0, 1) := by decide +kernel
theorem dX8_joined_65 : decode cX8_joined 65 = .ok (.ireturn, 1) := by decide +kernel
theorem dX8_joined_66 : decode cX8_joined 66 = .ok (.iload_n 1, 1) := by decide +kernel
theorem dX8_joined_67 : decode cX8_joined 67 = .ok (.iload_n 2, 1) := by decide +kernel
theorem dX8_joined_68 : decode cX8_joined 68 = .ok (.if_icmp .ne 7, 3) := by decide +kernel
theorem dX8_joined_71 : decode cX8_joined 71 = .ok (.iconst 1, 1) := by decide +kernel
theorem dX8_joined_72 : decode cX8_joined 72 = .ok (.goto 4, 3) := by decide +kernel
theorem dX8_joined_75 : decode cX8_joined 75 = .ok (.iconst 0, 1) := by decide +kernel
theorem dX8_joined_76 : decode cX8_joined 76 = .ok (.ireturn, 1) := by decide +kernel
theorem dX8_joined_77 : decode cX8_joined 77 = .ok (.iload_n 1, 1) := by decide +kernel
theorem dX8_joined_78 : decode cX8_joined 78 = .ok (.iload_n 2, 1) := by decide +kernel
theorem dX8_joined_79 : decode cX8_joined 79 = .ok (.iadd, 1) := by decide +kernel
theorem dX8_joined_80 : decode cX8_joined 80 = .ok (.ireturn, 1) := by decide +kernel
theorem dX8_joined_81 : decode cX8_joined 81 = .ok (.iload_n 1, 1) := by decide +kernel
theorem dX8_joined_82 : decode cX8_joined 82 = .ok (.iload_n 2, 1) := by decide +kernel
theorem dX8_joined_83 : decode cX8_joined 83 = .ok (.isub, 1) := by decide +kernel
theorem dX8_joined_84 : decode cX8_joined 84 = .ok (.ireturn, 1) := by decide +kernel
theorem dX8_joined_85 : decode cX8_joined 85 = .ok (.iload_n 1, 1) := by decide +kernel
theorem dX8_joined_86 : decode cX8_joined 86 = .ok (.iload_n 2, 1) := by decide +kernel
theorem dX8_joined_87 : decode cX8_joined 87 = .ok (.imul, 1) := by decide +kernel
theorem dX8_joined_88 : decode cX8_joined 88 = .ok (.ireturn, 1) := by decide +kernel
theorem dX8_joined_89 : decode cX8_joined 89 = .ok (.iload_n 2, 1) := by decide +kernel
theorem dX8_joined_90 : decode cX8_joined 90 = .ok (.ifCond .ne 7, 3) := by decide +kernel
theorem dX8_joined_93 : decode cX8_joined 93 = .ok (.iconst 0, 1) := by decide +kernel
theorem dX8_joined_94 : decode cX8_joined 94 = .ok (.goto 6, 3) := by decide +kernel
theorem dX8_joined_97 : decode cX8_joined 97 = .ok (.iload_n 1, 1) := by decide +kernel
theorem dX8_joined_98 : decode cX8_joined 98 = .ok (.iload_n 2, 1) := by decide +kernel
theorem dX8_joined_99 : decode cX8_joined 99 = .ok (.idiv, 1) := by decide +kernel
theorem dX8_joined_100 : decode cX8_joined 100 = .ok (.ireturn, 1) := by decide +kernel
theorem dX8_joined_101 : decode cX8_joined 101 = .ok (.iconst 0, 1) := by decide +kernel
theorem dX8_joined_102 : decode cX8_joined 102 = .ok (.ireturn, 1) := by decide +kernel
theorem dX8_worth_0 : decode cX8_worth 0 = .ok (.aload_n 0, 1) := by decide +kernel
theorem dX8_worth_1 : decode cX8_worth 1 = .ok (.getfield 15, 3) := by decide +kernel
theorem dX8_worth_4 : decode cX8_worth 4 = .ok (.ifCond .ne 16, 3) := by decide +kernel
theorem dX8_worth_7 : decode cX8_worth 7 = .ok (.iload_n 1, 1) := by decide +kernel
theorem dX8_worth_8 : decode cX8_worth 8 = .ok (.iload_n 2, 1) := by decide +kernel
theorem dX8_worth_9 : decode cX8_worth 9 = .ok (.isub, 1) := by decide +kernel
theorem dX8_worth_10 : decode cX8_worth 10 = .ok (.iload_n 3, 1) := by decide +kernel
theorem dX8_worth_11 : decode cX8_worth 11 = .ok (.iconst 5, 1) := by decide +kernel
theorem dX8_worth_12 : decode cX8_worth 12 = .ok (.imul, 1) := by decide +kernel
theorem dX8_worth_13 : decode cX8_worth 13 = .ok (.isub, 1) := by decide +kernel
theorem dX8_worth_14 : decode cX8_worth 14 = .ok (.iload 4, 2) := by decide +kernel
theorem dX8_worth_16 : decode cX8_worth 16 = .ok (.iconst 4, 1) := by decide +kernel
theorem dX8_worth_17 : decode cX8_worth 17 = .ok (.imul, 1) := by decide +kernel
theorem dX8_worth_18 : decode cX8_worth 18 = .ok (.isub, 1) := by decide +kernel
theorem dX8_worth_19 : decode cX8_worth 19 = .ok (.ireturn, 1) := by decide +kernel
theorem dX8_worth_20 : decode cX8_worth 20 = .ok (.aload_n 0, 1) := by decide +kernel
theorem dX8_worth_21 : decode cX8_worth 21 = .ok (.getfield 32, 3) := by decide +kernel
theorem dX8_worth_24 : decode cX8_worth 24 = .ok (.iconst 0, 1) := by decide +kernel
theorem dX8_worth_25 : decode cX8_worth 25 = .ok (.iload_n 1, 1) := by decide +kernel
theorem dX8_worth_26 : decode cX8_worth 26 = .ok (.iastore, 1) := by decide +kernel
theorem dX8_worth_27 : decode cX8_worth 27 = .ok (.aload_n 0, 1) := by decide +kernel
theorem dX8_worth_28 : decode cX8_worth 28 = .ok (.getfield 32, 3) := by decide +kernel
theorem dX8_worth_31 : decode cX8_worth 31 = .ok (.iconst 1, 1) := by decide +kernel
theorem dX8_worth_32 : decode cX8_worth 32 = .ok (.iload_n 2, 1) := by decide +kernel
theorem dX8_worth_33 : decode cX8_worth 33 = .ok (.iastore, 1) := by decide +kernel
theorem dX8_worth_34 : decode cX8_worth 34 = .ok (.aload_n 0, 1) := by decide +kernel
theorem dX8_worth_35 : decode cX8_worth 35 = .ok (.getfield 32, 3) := by decide +kernel
theorem dX8_worth_38 : decode cX8_worth 38 = .ok (.iconst 2, 1) := by decide +kernel
theorem dX8_worth_39 : decode cX8_worth 39 = .ok (.iload_n 3, 1) := by decide +kernel
theorem dX8_worth_40 : decode cX8_worth 40 = .ok (.iastore, 1) := by decide +kernel
theorem dX8_worth_41 : decode cX8_worth 41 = .ok (.aload_n 0, 1) := by decide +kernel
theorem dX8_worth_42 : decode cX8_worth 42 = .ok (.getfield 32, 3) := by decide +kernel
theorem dX8_worth_45 : decode cX8_worth 45 = .ok (.iconst 3, 1) := by decide +kernel
theorem dX8_worth_46 : decode cX8_worth 46 = .ok (.iload 4, 2) := by decide +kernel
theorem dX8_worth_48 : decode cX8_worth 48 = .ok (.iastore, 1) := by decide +kernel
theorem dX8_worth_49 : decode cX8_worth 49 = .ok (.aload_n 0, 1) := by decide +kernel
theorem dX8_worth_50 : decode cX8_worth 50 = .ok (.getfield 32, 3) := by decide +kernel
theorem dX8_worth_53 : decode cX8_worth 53 = .ok (.iconst 4, 1) := by decide +kernel
theorem dX8_worth_54 : decode cX8_worth 54 = .ok (.iload 5, 2) := by decide +kernel
theorem dX8_worth_56 : decode cX8_worth 56 = .ok (.iastore, 1) := by decide +kernel
theorem dX8_worth_57 : decode cX8_worth 57 = .ok (.aload_n 0, 1) := by decide +kernel
theorem dX8_worth_58 : decode cX8_worth 58 = .ok (.getfield 32, 3) := by decide +kernel
theorem dX8_worth_61 : decode cX8_worth 61 = .ok (.iconst 5, 1) := by decide +kernel
theorem dX8_worth_62 : decode cX8_worth 62 = .ok (.iload 6, 2) := by decide +kernel
theorem dX8_worth_64 : decode cX8_worth 64 = .ok (.iastore, 1) := by decide +kernel
theorem dX8_worth_65 : decode cX8_worth 65 = .ok (.iconst 0, 1) := by decide +kernel
theorem dX8_worth_66 : decode cX8_worth 66 = .ok (.istore 7, 2) := by decide +kernel
theorem dX8_worth_68 : decode cX8_worth 68 = .ok (.iconst 0, 1) := by decide +kernel
theorem dX8_worth_69 : decode cX8_worth 69 = .ok (.istore 8, 2) := by decide +kernel
theorem dX8_worth_71 : decode cX8_worth 71 = .ok (.iload 8, 2) := by decide +kernel
theorem dX8_worth_73 : decode cX8_worth 73 = .ok (.aload_n 0, 1) := by decide +kernel
theorem dX8_worth_74 : decode cX8_worth 74 = .ok (.getfield 15, 3) := by decide +kernel
theorem dX8_worth_77 : decode cX8_worth 77 = .ok (.if_icmp .ge 168, 3) := by decide +kernel
theorem dX8_worth_80 : decode cX8_worth 80 = .ok (.iload 7, 2) := by decide +kernel
theorem dX8_worth_82 : decode cX8_worth 82 = .ok (.bipush 40, 2) := by decide +kernel
theorem dX8_worth_84 : decode cX8_worth 84 = .ok (.if_icmp .ge 161, 3) := by decide +kernel
theorem dX8_worth_87 : decode cX8_worth 87 = .ok (.aload_n 0, 1) := by decide +kernel
theorem dX8_worth_88 : decode cX8_worth 88 = .ok (.getfield 11, 3) := by decide +kernel
theorem dX8_worth_91 : decode cX8_worth 91 = .ok (.iload 8, 2) := by decide +kernel
theorem dX8_worth_93 : decode cX8_worth 93 = .ok (.iaload, 1) := by decide +kernel
theorem dX8_worth_94 : decode cX8_worth 94 = .ok (.istore 9, 2) := by decide +kernel
theorem dX8_worth_96 : decode cX8_worth 96 = .ok (.iload 9, 2) := by decide +kernel
theorem dX8_worth_98 : decode cX8_worth 98 = .ok (.sipush 1000, 3) := by decide +kernel
theorem dX8_worth_101 : decode cX8_worth 101 = .ok (.isub, 1) := by decide +kernel
theorem dX8_worth_102 : decode cX8_worth 102 = .ok (.istore 10, 2) := by decide +kernel
theorem dX8_worth_104 : decode cX8_worth 104 = .ok (.iload 9, 2) := by decide +kernel
theorem dX8_worth_106 : decode cX8_worth 106 = .ok (.sipush 1000, 3) := by decide +kernel
theorem dX8_worth_109 : decode cX8_worth 109 = .ok (.if_icmp .ge 18, 3) := by decide +kernel
theorem dX8_worth_112 : decode cX8_worth 112 = .ok (.aload_n 0, 1) := by decide +kernel
theorem dX8_worth_113 : decode cX8_worth 113 = .ok (.getfield 35, 3) := by decide +kernel
theorem dX8_worth_116 : decode cX8_worth 116 = .ok (.iload 7, 2) := by decide +kernel
theorem dX8_worth_118 : decode cX8_worth 118 = .ok (.iload 9, 2) := by decide +kernel
theorem dX8_worth_120 : decode cX8_worth 120 = .ok (.iastore, 1) := by decide +kernel
theorem dX8_worth_121 : decode cX8_worth 121 = .ok (.iinc 7 1, 3) := by decide +kernel
theorem dX8_worth_124 : decode cX8_worth 124 = .ok (.goto 115, 3) := by decide +kernel
theorem dX8_worth_127 : decode cX8_worth 127 = .ok (.iload 10, 2) := by decide +kernel
theorem dX8_worth_129 : decode cX8_worth 129 = .ok (.aload_n 0, 1) := by decide +kernel
theorem dX8_worth_130 : decode cX8_worth 130 = .ok (.getfield 32, 3) := by decide +kernel
theorem dX8_worth_133 : decode cX8_worth 133 = .ok (.arraylength, 1) := by decide +kernel
theorem dX8_worth_134 : decode cX8_worth 134 = .ok (.if_icmp .ge 23, 3) := by decide +kernel
theorem dX8_worth_137 : decode cX8_worth 137 = .ok (.aload_n 0, 1) := by decide +kernel
theorem dX8_worth_138 : decode cX8_worth 138 = .ok (.getfield 35, 3) := by decide +kernel
theorem dX8_worth_141 : decode cX8_worth 141 = .ok (.iload 7, 2) := by decide +kernel
theorem dX8_worth_143 : decode cX8_worth 143 = .ok (.aload_n 0, 1) := by decide +kernel
theorem dX8_worth_144 : decode cX8_worth 144 = .ok (.getfield 32, 3) := by decide +kernel
theorem dX8_worth_147 : decode cX8_worth 147 = .ok (.iload 10, 2) := by decide +kernel
theorem dX8_worth_149 : decode cX8_worth 149 = .ok (.iaload, 1) := by decide +kernel
theorem dX8_worth_150 : decode cX8_worth 150 = .ok (.iastore, 1) := by decide +kernel
theorem dX8_worth_151 : decode cX8_worth 151 = .ok (.iinc 7 1, 3) := by decide +kernel
theorem dX8_worth_154 : decode cX8_worth 154 = .ok (.goto 85, 3) := by decide +kernel
theorem dX8_worth_157 : decode cX8_worth 157 = .ok (.iload 9, 2) := by decide +kernel
theorem dX8_worth_159 : decode cX8_worth 159 = .ok (.sipush 2007, 3) := by decide +kernel
theorem dX8_worth_162 : decode cX8_worth 162 = .ok (.if_icmp .ne 30, 3) := by decide +kernel
theorem dX8_worth_165 : decode cX8_worth 165 = .ok (.iload 7, 2) := by decide +kernel
theorem dX8_worth_167 : decode cX8_worth 167 = .ok (.ifCond .le 25, 3) := by decide +kernel
theorem dX8_worth_170 : decode cX8_worth 170 = .ok (.aload_n 0, 1) := by decide +kernel
theorem dX8_worth_171 : decode cX8_worth 171 = .ok (.getfield 35, 3) := by decide +kernel
theorem dX8_worth_174 : decode cX8_worth 174 = .ok (.iload 7, 2) := by decide +kernel
theorem dX8_worth_176 : decode cX8_worth 176 = .ok (.iconst 1, 1) := by decide +kernel
theorem dX8_worth_177 : decode cX8_worth 177 = .ok (.isub, 1) := by decide +kernel
theorem dX8_worth_178 : decode cX8_worth 178 = .ok (.aload_n 0, 1) := by decide +kernel
theorem dX8_worth_179 : decode cX8_worth 179 = .ok (.getfield 35, 3) := by decide +kernel
theorem dX8_worth_182 : decode cX8_worth 182 = .ok (.iload 7, 2) := by decide +kernel
theorem dX8_worth_184 : decode cX8_worth 184 = .ok (.iconst 1, 1) := by decide +kernel
theorem dX8_worth_185 : decode cX8_worth 185 = .ok (.isub, 1) := by decide +kernel
theorem dX8_worth_186 : decode cX8_worth 186 = .ok (.iaload, 1) := by decide +kernel
theorem dX8_worth_187 : decode cX8_worth 187 = .ok (.ineg, 1) := by decide +kernel
theorem dX8_worth_188 : decode cX8_worth 188 = .ok (.iastore, 1) := by decide +kernel
theorem dX8_worth_189 : decode cX8_worth 189 = .ok (.goto 50, 3) := by decide +kernel
theorem dX8_worth_192 : decode cX8_worth 192 = .ok (.iload 7, 2) := by decide +kernel
theorem dX8_worth_194 : decode cX8_worth 194 = .ok (.iconst 1, 1) := by decide +kernel
theorem dX8_worth_195 : decode cX8_worth 195 = .ok (.if_icmp .le 44, 3) := by decide +kernel
theorem dX8_worth_198 : decode cX8_worth 198 = .ok (.iinc 7 (-1), 3) := by decide +kernel
theorem dX8_worth_201 : decode cX8_worth 201 = .ok (.iload 9, 2) := by decide +kernel
theorem dX8_worth_203 : decode cX8_worth 203 = .ok (.sipush 2000, 3) := by decide +kernel
theorem dX8_worth_206 : decode cX8_worth 206 = .ok (.isub, 1) := by decide +kernel
theorem dX8_worth_207 : decode cX8_worth 207 = .ok (.istore 11, 2) := by decide +kernel
theorem dX8_worth_209 : decode cX8_worth 209 = .ok (.aload_n 0, 1) := by decide +kernel
theorem dX8_worth_210 : decode cX8_worth 210 = .ok (.getfield 35, 3) := by decide +kernel
theorem dX8_worth_213 : decode cX8_worth 213 = .ok (.iload 7, 2) := by decide +kernel
theorem dX8_worth_215 : decode cX8_worth 215 = .ok (.iconst 1, 1) := by decide +kernel
theorem dX8_worth_216 : decode cX8_worth 216 = .ok (.isub, 1) := by decide +kernel
theorem dX8_worth_217 : decode cX8_worth 217 = .ok (.iload 11, 2) := by decide +kernel
theorem dX8_worth_219 : decode cX8_worth 219 = .ok (.aload_n 0, 1) := by decide +kernel
theorem dX8_worth_220 : decode cX8_worth 220 = .ok (.getfield 35, 3) := by decide +kernel
theorem dX8_worth_223 : decode cX8_worth 223 = .ok (.iload 7, 2) := by decide +kernel
theorem dX8_worth_225 : decode cX8_worth 225 = .ok (.iconst 1, 1) := by decide +kernel
theorem dX8_worth_226 : decode cX8_worth 226 = .ok (.isub, 1) := by decide +kernel
theorem dX8_worth_227 : decode cX8_worth 227 = .ok (.iaload, 1) := by decide +kernel
theorem dX8_worth_228 : decode cX8_worth 228 = .ok (.aload_n 0, 1) := by decide +kernel
theorem dX8_worth_229 : decode cX8_worth 229 = .ok (.getfield 35, 3) := by decide +kernel
theorem dX8_worth_232 : decode cX8_worth 232 = .ok (.iload 7, 2) := by decide +kernel
theorem dX8_worth_234 : decode cX8_worth 234 = .ok (.iaload, 1) := by decide +kernel
theorem dX8_worth_235 : decode cX8_worth 235 = .ok (.invokestatic 95, 3) := by decide +kernel
theorem dX8_worth_238 : decode cX8_worth 238 = .ok (.iastore, 1) := by decide +kernel
theorem dX8_worth_239 : decode cX8_worth 239 = .ok (.iinc 8 1, 3) := by decide +kernel
theorem dX8_worth_242 : decode cX8_worth 242 = .ok (.goto (-171), 3) := by decide +kernel
theorem dX8_worth_245 : decode cX8_worth 245 = .ok (.aload_n 0, 1) := by decide +kernel
theorem dX8_worth_246 : decode cX8_worth 246 = .ok (.getfield 35, 3) := by decide +kernel
theorem dX8_worth_249 : decode cX8_worth 249 = .ok (.iconst 0, 1) := by decide +kernel
theorem dX8_worth_250 : decode cX8_worth 250 = .ok (.iaload, 1) := by decide +kernel
theorem dX8_worth_251 : decode cX8_worth 251 = .ok (.ireturn, 1) := by decide +kernel
theorem dX4_leftWith_0 : decode cX4_leftWith 0 = .ok (.aload_n 0, 1) := by decide +kernel
theorem dX4_leftWith_1 : decode cX4_leftWith 1 = .ok (.getfield 39, 3) := by decide +kernel
theorem dX4_leftWith_4 : decode cX4_leftWith 4 = .ok (.aload_n 0, 1) := by decide +kernel
theorem dX4_leftWith_5 : decode cX4_leftWith 5 = .ok (.getfield 31, 3) := by decide +kernel
theorem dX4_leftWith_8 : decode cX4_leftWith 8 = .ok (.getfield 127, 3) := by decide +kernel
theorem dX4_leftWith_11 : decode cX4_leftWith 11 = .ok (.iload_n 1, 1) := by decide +kernel
theorem dX4_leftWith_12 : decode cX4_leftWith 12 = .ok (.iaload, 1) := by decide +kernel
theorem dX4_leftWith_13 : decode cX4_leftWith 13 = .ok (.iload_n 2, 1) := by decide +kernel
theorem dX4_leftWith_14 : decode cX4_leftWith 14 = .ok (.iload_n 3, 1) := by decide +kernel
theorem dX4_leftWith_15 : decode cX4_leftWith 15 = .ok (.iload 4, 2) := by decide +kernel
theorem dX4_leftWith_17 : decode cX4_leftWith 17 = .ok (.iconst 1, 1) := by decide +kernel
theorem dX4_leftWith_18 : decode cX4_leftWith 18 = .ok (.iand, 1) := by decide +kernel
theorem dX4_leftWith_19 : decode cX4_leftWith 19 = .ok (.aload_n 0, 1) := by decide +kernel
theorem dX4_leftWith_20 : decode cX4_leftWith 20 = .ok (.getfield 31, 3) := by decide +kernel
theorem dX4_leftWith_23 : decode cX4_leftWith 23 = .ok (.getfield 83, 3) := by decide +kernel
theorem dX4_leftWith_26 : decode cX4_leftWith 26 = .ok (.iload_n 1, 1) := by decide +kernel
theorem dX4_leftWith_27 : decode cX4_leftWith 27 = .ok (.iaload, 1) := by decide +kernel
theorem dX4_leftWith_28 : decode cX4_leftWith 28 = .ok (.iload_n 1, 1) := by decide +kernel
theorem dX4_leftWith_29 : decode cX4_leftWith 29 = .ok (.invokevirtual 130, 3) := by decide +kernel
theorem dX4_leftWith_32 : decode cX4_leftWith 32 = .ok (.istore 5, 2) := by decide +kernel
theorem dX4_leftWith_34 : decode cX4_leftWith 34 = .ok (.sipush (-999), 3) := by decide +kernel
theorem dX4_leftWith_37 : decode cX4_leftWith 37 = .ok (.sipush 999, 3) := by decide +kernel
theorem dX4_leftWith_40 : decode cX4_leftWith 40 = .ok (.iload 5, 2) := by decide +kernel
theorem dX4_leftWith_42 : decode cX4_leftWith 42 = .ok (.invokestatic 66, 3) := by decide +kernel
theorem dX4_leftWith_45 : decode cX4_leftWith 45 = .ok (.invokestatic 72, 3) := by decide +kernel
theorem dX4_leftWith_48 : decode cX4_leftWith 48 = .ok (.ireturn, 1) := by decide +kernel
theorem dX4_leftNow_0 : decode cX4_leftNow 0 = .ok (.aload_n 0, 1) := by decide +kernel
theorem dX4_leftNow_1 : decode cX4_leftNow 1 = .ok (.iload_n 1, 1) := by decide +kernel
theorem dX4_leftNow_2 : decode cX4_leftNow 2 = .ok (.aload_n 0, 1) := by decide +kernel
theorem dX4_leftNow_3 : decode cX4_leftNow 3 = .ok (.getfield 15, 3) := by decide +kernel
theorem dX4_leftNow_6 : decode cX4_leftNow 6 = .ok (.iload_n 1, 1) := by decide +kernel
theorem dX4_leftNow_7 : decode cX4_leftNow 7 = .ok (.iaload, 1) := by decide +kernel
theorem dX4_leftNow_8 : decode cX4_leftNow 8 = .ok (.aload_n 0, 1) := by decide +kernel
theorem dX4_leftNow_9 : decode cX4_leftNow 9 = .ok (.getfield 18, 3) := by decide +kernel
theorem dX4_leftNow_12 : decode cX4_leftNow 12 = .ok (.iload_n 1, 1) := by decide +kernel
theorem dX4_leftNow_13 : decode cX4_leftNow 13 = .ok (.iaload, 1) := by decide +kernel
theorem dX4_leftNow_14 : decode cX4_leftNow 14 = .ok (.aload_n 0, 1) := by decide +kernel
theorem dX4_leftNow_15 : decode cX4_leftNow 15 = .ok (.getfield 24, 3) := by decide +kernel
theorem dX4_leftNow_18 : decode cX4_leftNow 18 = .ok (.invokevirtual 115, 3) := by decide +kernel
theorem dX4_leftNow_21 : decode cX4_leftNow 21 = .ok (.ireturn, 1) := by decide +kernel
theorem dX4_askOf_0 : decode cX4_askOf 0 = .ok (.aload_n 0, 1) := by decide +kernel
theorem dX4_askOf_1 : decode cX4_askOf 1 = .ok (.iload_n 1, 1) := by decide +kernel
theorem dX4_askOf_2 : decode cX4_askOf 2 = .ok (.invokevirtual 59, 3) := by decide +kernel
theorem dX4_askOf_5 : decode cX4_askOf 5 = .ok (.ifCond .ne 5, 3) := by decide +kernel
theorem dX4_askOf_8 : decode cX4_askOf 8 = .ok (.iconst (-1), 1) := by decide +kernel
theorem dX4_askOf_9 : decode cX4_askOf 9 = .ok (.ireturn, 1) := by decide +kernel
theorem dX4_askOf_10 : decode cX4_askOf 10 = .ok (.aload_n 0, 1) := by decide +kernel
theorem dX4_askOf_11 : decode cX4_askOf 11 = .ok (.iload_n 1, 1) := by decide +kernel
theorem dX4_askOf_12 : decode cX4_askOf 12 = .ok (.invokevirtual 63, 3) := by decide +kernel
theorem dX4_askOf_15 : decode cX4_askOf 15 = .ok (.ifCond .ne 6, 3) := by decide +kernel
theorem dX4_askOf_18 : decode cX4_askOf 18 = .ok (.bipush (-2), 2) := by decide +kernel
theorem dX4_askOf_20 : decode cX4_askOf 20 = .ok (.ireturn, 1) := by decide +kernel
theorem dX4_askOf_21 : decode cX4_askOf 21 = .ok (.aload_n 0, 1) := by decide +kernel
theorem dX4_askOf_22 : decode cX4_askOf 22 = .ok (.getfield 31, 3) := by decide +kernel
theorem dX4_askOf_25 : decode cX4_askOf 25 = .ok (.getfield 75, 3) := by decide +kernel
theorem dX4_askOf_28 : decode cX4_askOf 28 = .ok (.iload_n 1, 1) := by decide +kernel
theorem dX4_askOf_29 : decode cX4_askOf 29 = .ok (.baload, 1) := by decide +kernel
theorem dX4_askOf_30 : decode cX4_askOf 30 = .ok (.ifCond .ne 20, 3) := by decide +kernel
theorem dX4_askOf_33 : decode cX4_askOf 33 = .ok (.aload_n 0, 1) := by decide +kernel
theorem dX4_askOf_34 : decode cX4_askOf 34 = .ok (.iload_n 1, 1) := by decide +kernel
theorem dX4_askOf_35 : decode cX4_askOf 35 = .ok (.invokevirtual 79, 3) := by decide +kernel
theorem dX4_askOf_38 : decode cX4_askOf 38 = .ok (.aload_n 0, 1) := by decide +kernel
theorem dX4_askOf_39 : decode cX4_askOf 39 = .ok (.getfield 31, 3) := by decide +kernel
theorem dX4_askOf_42 : decode cX4_askOf 42 = .ok (.getfield 83, 3) := by decide +kernel
theorem dX4_askOf_45 : decode cX4_askOf 45 = .ok (.iload_n 1, 1) := by decide +kernel
theorem dX4_askOf_46 : decode cX4_askOf 46 = .ok (.iaload, 1) := by decide +kernel
theorem dX4_askOf_47 : decode cX4_askOf 47 = .ok (.if_icmp .le 5, 3) := by decide +kernel
theorem dX4_askOf_50 : decode cX4_askOf 50 = .ok (.iconst 0, 1) := by decide +kernel
theorem dX4_askOf_51 : decode cX4_askOf 51 = .ok (.ireturn, 1) := by decide +kernel
theorem dX4_askOf_52 : decode cX4_askOf 52 = .ok (.aload_n 0, 1) := by decide +kernel
theorem dX4_askOf_53 : decode cX4_askOf 53 = .ok (.getfield 9, 3) := by decide +kernel
theorem dX4_askOf_56 : decode cX4_askOf 56 = .ok (.iload_n 1, 1) := by decide +kernel
theorem dX4_askOf_57 : decode cX4_askOf 57 = .ok (.iconst 1, 1) := by decide +kernel
theorem dX4_askOf_58 : decode cX4_askOf 58 = .ok (.iastore, 1) := by decide +kernel
theorem dX4_askOf_59 : decode cX4_askOf 59 = .ok (.aload_n 0, 1) := by decide +kernel
theorem dX4_askOf_60 : decode cX4_askOf 60 = .ok (.getfield 15, 3) := by decide +kernel
theorem dX4_askOf_63 : decode cX4_askOf 63 = .ok (.iload_n 1, 1) := by decide +kernel
theorem dX4_askOf_64 : decode cX4_askOf 64 = .ok (.iconst 0, 1) := by decide +kernel
theorem dX4_askOf_65 : decode cX4_askOf 65 = .ok (.iastore, 1) := by decide +kernel
theorem dX4_askOf_66 : decode cX4_askOf 66 = .ok (.aload_n 0, 1) := by decide +kernel
theorem dX4_askOf_67 : decode cX4_askOf 67 = .ok (.dup, 1) := by decide +kernel
theorem dX4_askOf_68 : decode cX4_askOf 68 = .ok (.getfield 28, 3) := by decide +kernel
theorem dX4_askOf_71 : decode cX4_askOf 71 = .ok (.iconst 1, 1) := by decide +kernel
theorem dX4_askOf_72 : decode cX4_askOf 72 = .ok (.iadd, 1) := by decide +kernel
theorem dX4_askOf_73 : decode cX4_askOf 73 = .ok (.putfield 28, 3) := by decide +kernel
theorem dX4_askOf_76 : decode cX4_askOf 76 = .ok (.iconst 1, 1) := by decide +kernel
theorem dX4_askOf_77 : decode cX4_askOf 77 = .ok (.ireturn, 1) := by decide +kernel
theorem dX11_ask_0 : decode cX11_ask 0 = .ok (.aload_n 0, 1) := by decide +kernel
theorem dX11_ask_1 : decode cX11_ask 1 = .ok (.getfield 75, 3) := by decide +kernel
theorem dX11_ask_4 : decode cX11_ask 4 = .ok (.aload_n 0, 1) := by decide +kernel
theorem dX11_ask_5 : decode cX11_ask 5 = .ok (.getfield 65, 3) := by decide +kernel
theorem dX11_ask_8 : decode cX11_ask 8 = .ok (.invokevirtual 212, 3) := by decide +kernel
theorem dX11_ask_11 : decode cX11_ask 11 = .ok (.aload_n 0, 1) := by decide +kernel
theorem dX11_ask_12 : decode cX11_ask 12 = .ok (.aload_n 0, 1) := by decide +kernel
theorem dX11_ask_13 : decode cX11_ask 13 = .ok (.getfield 65, 3) := by decide +kernel
theorem dX11_ask_16 : decode cX11_ask 16 = .ok (.iload_n 1, 1) := by decide +kernel
theorem dX11_ask_17 : decode cX11_ask 17 = .ok (.invokevirtual 222, 3) := by decide +kernel
theorem dX11_ask_20 : decode cX11_ask 20 = .ok (.invokevirtual 219, 3) := by decide +kernel
theorem dX11_ask_23 : decode cX11_ask 23 = .ok (.ireturn, 1) := by decide +kernel
theorem dX12_doesSpeak_0 : decode cX12_doesSpeak 0 = .ok (.aload_n 0, 1) := by decide +kernel
theorem dX12_doesSpeak_1 : decode cX12_doesSpeak 1 = .ok (.getfield 19, 3) := by decide +kernel
theorem dX12_doesSpeak_4 : decode cX12_doesSpeak 4 = .ok (.iload_n 1, 1) := by decide +kernel
theorem dX12_doesSpeak_5 : decode cX12_doesSpeak 5 = .ok (.baload, 1) := by decide +kernel
theorem dX12_doesSpeak_6 : decode cX12_doesSpeak 6 = .ok (.ifCond .ne 17, 3) := by decide +kernel
theorem dX12_doesSpeak_9 : decode cX12_doesSpeak 9 = .ok (.iload_n 2, 1) := by decide +kernel
theorem dX12_doesSpeak_10 : decode cX12_doesSpeak 10 = .ok (.aload_n 0, 1) := by decide +kernel
theorem dX12_doesSpeak_11 : decode cX12_doesSpeak 11 = .ok (.getfield 16, 3) := by decide +kernel
theorem dX12_doesSpeak_14 : decode cX12_doesSpeak 14 = .ok (.iload_n 1, 1) := by decide +kernel
theorem dX12_doesSpeak_15 : decode cX12_doesSpeak 15 = .ok (.iaload, 1) := by decide +kernel
theorem dX12_doesSpeak_16 : decode cX12_doesSpeak 16 = .ok (.if_icmp .gt 7, 3) := by decide +kernel
theorem dX12_doesSpeak_19 : decode cX12_doesSpeak 19 = .ok (.iconst 1, 1) := by decide +kernel
theorem dX12_doesSpeak_20 : decode cX12_doesSpeak 20 = .ok (.goto 4, 3) := by decide +kernel
theorem dX12_doesSpeak_23 : decode cX12_doesSpeak 23 = .ok (.iconst 0, 1) := by decide +kernel
theorem dX12_doesSpeak_24 : decode cX12_doesSpeak 24 = .ok (.ireturn, 1) := by decide +kernel
theorem dX12_goPlead_0 : decode cX12_goPlead 0 = .ok (.aload_n 0, 1) := by decide +kernel
theorem dX12_goPlead_1 : decode cX12_goPlead 1 = .ok (.iload_n 1, 1) := by decide +kernel
theorem dX12_goPlead_2 : decode cX12_goPlead 2 = .ok (.iconst 1, 1) := by decide +kernel
theorem dX12_goPlead_3 : decode cX12_goPlead 3 = .ok (.iastore, 1) := by decide +kernel
theorem dX12_goPlead_4 : decode cX12_goPlead 4 = .ok (.aload_n 0, 1) := by decide +kernel
theorem dX12_goPlead_5 : decode cX12_goPlead 5 = .ok (.bipush 6, 2) := by decide +kernel
theorem dX12_goPlead_7 : decode cX12_goPlead 7 = .ok (.iload_n 1, 1) := by decide +kernel
theorem dX12_goPlead_8 : decode cX12_goPlead 8 = .ok (.iadd, 1) := by decide +kernel
theorem dX12_goPlead_9 : decode cX12_goPlead 9 = .ok (.iconst 0, 1) := by decide +kernel
theorem dX12_goPlead_10 : decode cX12_goPlead 10 = .ok (.iastore, 1) := by decide +kernel
theorem dX12_goPlead_11 : decode cX12_goPlead 11 = .ok (.return_, 1) := by decide +kernel
theorem dX12_ask_0 : decode cX12_ask 0 = .ok (.aload_n 0, 1) := by decide +kernel
theorem dX12_ask_1 : decode cX12_ask 1 = .ok (.iconst 0, 1) := by decide +kernel
theorem dX12_ask_2 : decode cX12_ask 2 = .ok (.putfield 95, 3) := by decide +kernel
theorem dX12_ask_5 : decode cX12_ask 5 = .ok (.aload_n 0, 1) := by decide +kernel
theorem dX12_ask_6 : decode cX12_ask 6 = .ok (.iload_n 1, 1) := by decide +kernel
theorem dX12_ask_7 : decode cX12_ask 7 = .ok (.invokevirtual 224, 3) := by decide +kernel
theorem dX12_ask_10 : decode cX12_ask 10 = .ok (.ifCond .ne 5, 3) := by decide +kernel
theorem dX12_ask_13 : decode cX12_ask 13 = .ok (.iconst (-1), 1) := by decide +kernel
theorem dX12_ask_14 : decode cX12_ask 14 = .ok (.ireturn, 1) := by decide +kernel
theorem dX12_ask_15 : decode cX12_ask 15 = .ok (.aload_n 0, 1) := by decide +kernel
theorem dX12_ask_16 : decode cX12_ask 16 = .ok (.getfield 9, 3) := by decide +kernel
theorem dX12_ask_19 : decode cX12_ask 19 = .ok (.iload_n 1, 1) := by decide +kernel
theorem dX12_ask_20 : decode cX12_ask 20 = .ok (.iaload, 1) := by decide +kernel
theorem dX12_ask_21 : decode cX12_ask 21 = .ok (.ifCond .eq 6, 3) := by decide +kernel
theorem dX12_ask_24 : decode cX12_ask 24 = .ok (.bipush (-2), 2) := by decide +kernel
theorem dX12_ask_26 : decode cX12_ask 26 = .ok (.ireturn, 1) := by decide +kernel
theorem dX12_ask_27 : decode cX12_ask 27 = .ok (.aload_n 0, 1) := by decide +kernel
theorem dX12_ask_28 : decode cX12_ask 28 = .ok (.aload_n 0, 1) := by decide +kernel
theorem dX12_ask_29 : decode cX12_ask 29 = .ok (.getfield 9, 3) := by decide +kernel
theorem dX12_ask_32 : decode cX12_ask 32 = .ok (.invokevirtual 249, 3) := by decide +kernel
theorem dX12_ask_35 : decode cX12_ask 35 = .ok (.aload_n 0, 1) := by decide +kernel
theorem dX12_ask_36 : decode cX12_ask 36 = .ok (.iload_n 1, 1) := by decide +kernel
theorem dX12_ask_37 : decode cX12_ask 37 = .ok (.aload_n 0, 1) := by decide +kernel
theorem dX12_ask_38 : decode cX12_ask 38 = .ok (.aload_n 0, 1) := by decide +kernel
theorem dX12_ask_39 : decode cX12_ask 39 = .ok (.getfield 9, 3) := by decide +kernel
theorem dX12_ask_42 : decode cX12_ask 42 = .ok (.iload_n 1, 1) := by decide +kernel
theorem dX12_ask_43 : decode cX12_ask 43 = .ok (.invokevirtual 231, 3) := by decide +kernel
theorem dX12_ask_46 : decode cX12_ask 46 = .ok (.invokevirtual 257, 3) := by decide +kernel
theorem dX12_ask_49 : decode cX12_ask 49 = .ok (.ifCond .ne 5, 3) := by decide +kernel
theorem dX12_ask_52 : decode cX12_ask 52 = .ok (.iconst 0, 1) := by decide +kernel
theorem dX12_ask_53 : decode cX12_ask 53 = .ok (.ireturn, 1) := by decide +kernel
theorem dX12_ask_54 : decode cX12_ask 54 = .ok (.aload_n 0, 1) := by decide +kernel
theorem dX12_ask_55 : decode cX12_ask 55 = .ok (.getfield 9, 3) := by decide +kernel
theorem dX12_ask_58 : decode cX12_ask 58 = .ok (.iload_n 1, 1) := by decide +kernel
theorem dX12_ask_59 : decode cX12_ask 59 = .ok (.invokestatic 260, 3) := by decide +kernel
theorem dX12_ask_62 : decode cX12_ask 62 = .ok (.iconst 1, 1) := by decide +kernel
theorem dX12_ask_63 : decode cX12_ask 63 = .ok (.ireturn, 1) := by decide +kernel
theorem dX4_wordIn_0 : decode cX4_wordIn 0 = .ok (.iconst 0, 1) := by decide +kernel
theorem dX4_wordIn_1 : decode cX4_wordIn 1 = .ok (.aload_n 0, 1) := by decide +kernel
theorem dX4_wordIn_2 : decode cX4_wordIn 2 = .ok (.getfield 21, 3) := by decide +kernel
theorem dX4_wordIn_5 : decode cX4_wordIn 5 = .ok (.iload_n 1, 1) := by decide +kernel
theorem dX4_wordIn_6 : decode cX4_wordIn 6 = .ok (.iaload, 1) := by decide +kernel
theorem dX4_wordIn_7 : decode cX4_wordIn 7 = .ok (.aload_n 0, 1) := by decide +kernel
theorem dX4_wordIn_8 : decode cX4_wordIn 8 = .ok (.getfield 35, 3) := by decide +kernel
theorem dX4_wordIn_11 : decode cX4_wordIn 11 = .ok (.getfield 120, 3) := by decide +kernel
theorem dX4_wordIn_14 : decode cX4_wordIn 14 = .ok (.iload_n 1, 1) := by decide +kernel
theorem dX4_wordIn_15 : decode cX4_wordIn 15 = .ok (.iaload, 1) := by decide +kernel
theorem dX4_wordIn_16 : decode cX4_wordIn 16 = .ok (.iload_n 2, 1) := by decide +kernel
theorem dX4_wordIn_17 : decode cX4_wordIn 17 = .ok (.imul, 1) := by decide +kernel
theorem dX4_wordIn_18 : decode cX4_wordIn 18 = .ok (.isub, 1) := by decide +kernel
theorem dX4_wordIn_19 : decode cX4_wordIn 19 = .ok (.invokestatic 72, 3) := by decide +kernel
theorem dX4_wordIn_22 : decode cX4_wordIn 22 = .ok (.ireturn, 1) := by decide +kernel
theorem dX4_proofIn_0 : decode cX4_proofIn 0 = .ok (.iconst 0, 1) := by decide +kernel
theorem dX4_proofIn_1 : decode cX4_proofIn 1 = .ok (.istore_n 3, 1) := by decide +kernel
theorem dX4_proofIn_2 : decode cX4_proofIn 2 = .ok (.iconst 0, 1) := by decide +kernel
theorem dX4_proofIn_3 : decode cX4_proofIn 3 = .ok (.istore 4, 2) := by decide +kernel
theorem dX4_proofIn_5 : decode cX4_proofIn 5 = .ok (.iload 4, 2) := by decide +kernel
theorem dX4_proofIn_7 : decode cX4_proofIn 7 = .ok (.aload_n 0, 1) := by decide +kernel
theorem dX4_proofIn_8 : decode cX4_proofIn 8 = .ok (.getfield 35, 3) := by decide +kernel
theorem dX4_proofIn_11 : decode cX4_proofIn 11 = .ok (.getfield 119, 3) := by decide +kernel
theorem dX4_proofIn_14 : decode cX4_proofIn 14 = .ok (.if_icmp .ge 37, 3) := by decide +kernel
theorem dX4_proofIn_17 : decode cX4_proofIn 17 = .ok (.iload_n 3, 1) := by decide +kernel
theorem dX4_proofIn_18 : decode cX4_proofIn 18 = .ok (.aload_n 0, 1) := by decide +kernel
theorem dX4_proofIn_19 : decode cX4_proofIn 19 = .ok (.getfield 35, 3) := by decide +kernel
theorem dX4_proofIn_22 : decode cX4_proofIn 22 = .ok (.getfield 143, 3) := by decide +kernel
theorem dX4_proofIn_25 : decode cX4_proofIn 25 = .ok (.iload 4, 2) := by decide +kernel
theorem dX4_proofIn_27 : decode cX4_proofIn 27 = .ok (.iaload, 1) := by decide +kernel
theorem dX4_proofIn_28 : decode cX4_proofIn 28 = .ok (.iload_n 1, 1) := by decide +kernel
theorem dX4_proofIn_29 : decode cX4_proofIn 29 = .ok (.if_icmp .ne 13, 3) := by decide +kernel
theorem dX4_proofIn_32 : decode cX4_proofIn 32 = .ok (.aload_n 0, 1) := by decide +kernel
theorem dX4_proofIn_33 : decode cX4_proofIn 33 = .ok (.iload 4, 2) := by decide +kernel
theorem dX4_proofIn_35 : decode cX4_proofIn 35 = .ok (.iload_n 2, 1) := by decide +kernel
theorem dX4_proofIn_36 : decode cX4_proofIn 36 = .ok (.invokevirtual 146, 3) := by decide +kernel
theorem dX4_proofIn_39 : decode cX4_proofIn 39 = .ok (.goto 4, 3) := by decide +kernel
theorem dX4_proofIn_42 : decode cX4_proofIn 42 = .ok (.iconst 0, 1) := by decide +kernel
theorem dX4_proofIn_43 : decode cX4_proofIn 43 = .ok (.iadd, 1) := by decide +kernel
theorem dX4_proofIn_44 : decode cX4_proofIn 44 = .ok (.istore_n 3, 1) := by decide +kernel
theorem dX4_proofIn_45 : decode cX4_proofIn 45 = .ok (.iinc 4 1, 3) := by decide +kernel
theorem dX4_proofIn_48 : decode cX4_proofIn 48 = .ok (.goto (-43), 3) := by decide +kernel
theorem dX4_proofIn_51 : decode cX4_proofIn 51 = .ok (.iload_n 3, 1) := by decide +kernel
theorem dX4_proofIn_52 : decode cX4_proofIn 52 = .ok (.ireturn, 1) := by decide +kernel
theorem dX4_verdictIn_0 : decode cX4_verdictIn 0 = .ok (.aload_n 0, 1) := by decide +kernel
theorem dX4_verdictIn_1 : decode cX4_verdictIn 1 = .ok (.iload_n 1, 1) := by decide +kernel
theorem dX4_verdictIn_2 : decode cX4_verdictIn 2 = .ok (.iload_n 2, 1) := by decide +kernel
theorem dX4_verdictIn_3 : decode cX4_verdictIn 3 = .ok (.invokevirtual 149, 3) := by decide +kernel
theorem dX4_verdictIn_6 : decode cX4_verdictIn 6 = .ok (.bipush 100, 2) := by decide +kernel
theorem dX4_verdictIn_8 : decode cX4_verdictIn 8 = .ok (.if_icmp .lt 7, 3) := by decide +kernel
theorem dX4_verdictIn_11 : decode cX4_verdictIn 11 = .ok (.iconst 4, 1) := by decide +kernel
theorem dX4_verdictIn_12 : decode cX4_verdictIn 12 = .ok (.goto 4, 3) := by decide +kernel
theorem dX4_verdictIn_15 : decode cX4_verdictIn 15 = .ok (.iconst 3, 1) := by decide +kernel
theorem dX4_verdictIn_16 : decode cX4_verdictIn 16 = .ok (.ireturn, 1) := by decide +kernel
theorem dX4_tryNow_0 : decode cX4_tryNow 0 = .ok (.aload_n 0, 1) := by decide +kernel
theorem dX4_tryNow_1 : decode cX4_tryNow 1 = .ok (.iload_n 1, 1) := by decide +kernel
theorem dX4_tryNow_2 : decode cX4_tryNow 2 = .ok (.invokevirtual 59, 3) := by decide +kernel
theorem dX4_tryNow_5 : decode cX4_tryNow 5 = .ok (.ifCond .ne 5, 3) := by decide +kernel
theorem dX4_tryNow_8 : decode cX4_tryNow 8 = .ok (.iconst (-1), 1) := by decide +kernel
theorem dX4_tryNow_9 : decode cX4_tryNow 9 = .ok (.ireturn, 1) := by decide +kernel
theorem dX4_tryNow_10 : decode cX4_tryNow 10 = .ok (.aload_n 0, 1) := by decide +kernel
theorem dX4_tryNow_11 : decode cX4_tryNow 11 = .ok (.getfield 9, 3) := by decide +kernel
theorem dX4_tryNow_14 : decode cX4_tryNow 14 = .ok (.iload_n 1, 1) := by decide +kernel
theorem dX4_tryNow_15 : decode cX4_tryNow 15 = .ok (.iaload, 1) := by decide +kernel
theorem dX4_tryNow_16 : decode cX4_tryNow 16 = .ok (.iconst 1, 1) := by decide +kernel
theorem dX4_tryNow_17 : decode cX4_tryNow 17 = .ok (.if_icmp .eq 6, 3) := by decide +kernel
theorem dX4_tryNow_20 : decode cX4_tryNow 20 = .ok (.bipush (-2), 2) := by decide +kernel
theorem dX4_tryNow_22 : decode cX4_tryNow 22 = .ok (.ireturn, 1) := by decide +kernel
theorem dX4_tryNow_23 : decode cX4_tryNow 23 = .ok (.aload_n 0, 1) := by decide +kernel
theorem dX4_tryNow_24 : decode cX4_tryNow 24 = .ok (.getfield 9, 3) := by decide +kernel
theorem dX4_tryNow_27 : decode cX4_tryNow 27 = .ok (.iload_n 1, 1) := by decide +kernel
theorem dX4_tryNow_28 : decode cX4_tryNow 28 = .ok (.aload_n 0, 1) := by decide +kernel
theorem dX4_tryNow_29 : decode cX4_tryNow 29 = .ok (.iload_n 1, 1) := by decide +kernel
theorem dX4_tryNow_30 : decode cX4_tryNow 30 = .ok (.iconst 0, 1) := by decide +kernel
theorem dX4_tryNow_31 : decode cX4_tryNow 31 = .ok (.invokevirtual 86, 3) := by decide +kernel
theorem dX4_tryNow_34 : decode cX4_tryNow 34 = .ok (.iastore, 1) := by decide +kernel
theorem dX4_tryNow_35 : decode cX4_tryNow 35 = .ok (.aload_n 0, 1) := by decide +kernel
theorem dX4_tryNow_36 : decode cX4_tryNow 36 = .ok (.getfield 9, 3) := by decide +kernel
theorem dX4_tryNow_39 : decode cX4_tryNow 39 = .ok (.iload_n 1, 1) := by decide +kernel
theorem dX4_tryNow_40 : decode cX4_tryNow 40 = .ok (.iaload, 1) := by decide +kernel
theorem dX4_tryNow_41 : decode cX4_tryNow 41 = .ok (.ireturn, 1) := by decide +kernel
theorem dX7_add_0 : decode cX7_add 0 = .ok (.aload_n 0, 1) := by decide +kernel
theorem dX7_add_1 : decode cX7_add 1 = .ok (.getfield 13, 3) := by decide +kernel
theorem dX7_add_4 : decode cX7_add 4 = .ok (.aload_n 0, 1) := by decide +kernel
theorem dX7_add_5 : decode cX7_add 5 = .ok (.getfield 7, 3) := by decide +kernel
theorem dX7_add_8 : decode cX7_add 8 = .ok (.arraylength, 1) := by decide +kernel
theorem dX7_add_9 : decode cX7_add 9 = .ok (.if_icmp .ge 23, 3) := by decide +kernel
theorem dX7_add_12 : decode cX7_add 12 = .ok (.aload_n 0, 1) := by decide +kernel
theorem dX7_add_13 : decode cX7_add 13 = .ok (.getfield 7, 3) := by decide +kernel
theorem dX7_add_16 : decode cX7_add 16 = .ok (.aload_n 0, 1) := by decide +kernel
theorem dX7_add_17 : decode cX7_add 17 = .ok (.getfield 13, 3) := by decide +kernel
theorem dX7_add_20 : decode cX7_add 20 = .ok (.lload_n 1, 1) := by decide +kernel
theorem dX7_add_21 : decode cX7_add 21 = .ok (.lastore, 1) := by decide +kernel
theorem dX7_add_22 : decode cX7_add 22 = .ok (.aload_n 0, 1) := by decide +kernel
theorem dX7_add_23 : decode cX7_add 23 = .ok (.dup, 1) := by decide +kernel
theorem dX7_add_24 : decode cX7_add 24 = .ok (.getfield 13, 3) := by decide +kernel
theorem dX7_add_27 : decode cX7_add 27 = .ok (.iconst 1, 1) := by decide +kernel
theorem dX7_add_28 : decode cX7_add 28 = .ok (.iadd, 1) := by decide +kernel
theorem dX7_add_29 : decode cX7_add 29 = .ok (.putfield 13, 3) := by decide +kernel
theorem dX7_add_32 : decode cX7_add 32 = .ok (.return_, 1) := by decide +kernel
theorem dX7_clear_0 : decode cX7_clear 0 = .ok (.aload_n 0, 1) := by decide +kernel
theorem dX7_clear_1 : decode cX7_clear 1 = .ok (.iconst 0, 1) := by decide +kernel
theorem dX7_clear_2 : decode cX7_clear 2 = .ok (.putfield 13, 3) := by decide +kernel
theorem dX7_clear_5 : decode cX7_clear 5 = .ok (.return_, 1) := by decide +kernel
theorem dX7_tell_0 : decode cX7_tell 0 = .ok (.aload_n 0, 1) := by decide +kernel
theorem dX7_tell_1 : decode cX7_tell 1 = .ok (.invokevirtual 17, 3) := by decide +kernel
theorem dX7_tell_4 : decode cX7_tell 4 = .ok (.aload_n 0, 1) := by decide +kernel
theorem dX7_tell_5 : decode cX7_tell 5 = .ok (.lload_n 1, 1) := by decide +kernel
theorem dX7_tell_6 : decode cX7_tell 6 = .ok (.invokevirtual 20, 3) := by decide +kernel
theorem dX7_tell_9 : decode cX7_tell 9 = .ok (.return_, 1) := by decide +kernel
theorem dX11_judge_0 : decode cX11_judge 0 = .ok (.aload_n 0, 1) := by decide +kernel
theorem dX11_judge_1 : decode cX11_judge 1 = .ok (.getfield 75, 3) := by decide +kernel
theorem dX11_judge_4 : decode cX11_judge 4 = .ok (.aload_n 0, 1) := by decide +kernel
theorem dX11_judge_5 : decode cX11_judge 5 = .ok (.getfield 65, 3) := by decide +kernel
theorem dX11_judge_8 : decode cX11_judge 8 = .ok (.invokevirtual 212, 3) := by decide +kernel
theorem dX11_judge_11 : decode cX11_judge 11 = .ok (.aload_n 0, 1) := by decide +kernel
theorem dX11_judge_12 : decode cX11_judge 12 = .ok (.aload_n 0, 1) := by decide +kernel
theorem dX11_judge_13 : decode cX11_judge 13 = .ok (.getfield 65, 3) := by decide +kernel
theorem dX11_judge_16 : decode cX11_judge 16 = .ok (.iload_n 1, 1) := by decide +kernel
theorem dX11_judge_17 : decode cX11_judge 17 = .ok (.invokevirtual 225, 3) := by decide +kernel
theorem dX11_judge_20 : decode cX11_judge 20 = .ok (.invokevirtual 219, 3) := by decide +kernel
theorem dX11_judge_23 : decode cX11_judge 23 = .ok (.istore_n 2, 1) := by decide +kernel
theorem dX11_judge_24 : decode cX11_judge 24 = .ok (.iload_n 2, 1) := by decide +kernel
theorem dX11_judge_25 : decode cX11_judge 25 = .ok (.ifCond .lt 20, 3) := by decide +kernel
theorem dX11_judge_28 : decode cX11_judge 28 = .ok (.aload_n 0, 1) := by decide +kernel
theorem dX11_judge_29 : decode cX11_judge 29 = .ok (.getfield 19, 3) := by decide +kernel
theorem dX11_judge_32 : decode cX11_judge 32 = .ok (.aload_n 0, 1) := by decide +kernel
theorem dX11_judge_33 : decode cX11_judge 33 = .ok (.getfield 65, 3) := by decide +kernel
theorem dX11_judge_36 : decode cX11_judge 36 = .ok (.iload_n 1, 1) := by decide +kernel
theorem dX11_judge_37 : decode cX11_judge 37 = .ok (.iconst 0, 1) := by decide +kernel
theorem dX11_judge_38 : decode cX11_judge 38 = .ok (.invokevirtual 184, 3) := by decide +kernel
theorem dX11_judge_41 : decode cX11_judge 41 = .ok (.i2l, 1) := by decide +kernel
theorem dX11_judge_42 : decode cX11_judge 42 = .ok (.invokevirtual 228, 3) := by decide +kernel
theorem dX11_judge_45 : decode cX11_judge 45 = .ok (.iload_n 2, 1) := by decide +kernel
theorem dX11_judge_46 : decode cX11_judge 46 = .ok (.ireturn, 1) := by decide +kernel
theorem dX12_ending_0 : decode cX12_ending 0 = .ok (.iload_n 1, 1) := by decide +kernel
theorem dX12_ending_1 : decode cX12_ending 1 = .ok (.bipush 100, 2) := by decide +kernel
theorem dX12_ending_3 : decode cX12_ending 3 = .ok (.if_icmp .lt 7, 3) := by decide +kernel
theorem dX12_ending_6 : decode cX12_ending 6 = .ok (.iconst 4, 1) := by decide +kernel
theorem dX12_ending_7 : decode cX12_ending 7 = .ok (.goto 4, 3) := by decide +kernel
theorem dX12_ending_10 : decode cX12_ending 10 = .ok (.iconst 3, 1) := by decide +kernel
theorem dX12_ending_11 : decode cX12_ending 11 = .ok (.ireturn, 1) := by decide +kernel
theorem dX12_tell_0 : decode cX12_tell 0 = .ok (.aload_n 0, 1) := by decide +kernel
theorem dX12_tell_1 : decode cX12_tell 1 = .ok (.getfield 49, 3) := by decide +kernel
theorem dX12_tell_4 : decode cX12_tell 4 = .ok (.aload_n 0, 1) := by decide +kernel
theorem dX12_tell_5 : decode cX12_tell 5 = .ok (.getfield 98, 3) := by decide +kernel
theorem dX12_tell_8 : decode cX12_tell 8 = .ok (.lload_n 1, 1) := by decide +kernel
theorem dX12_tell_9 : decode cX12_tell 9 = .ok (.lastore, 1) := by decide +kernel
theorem dX12_tell_10 : decode cX12_tell 10 = .ok (.aload_n 0, 1) := by decide +kernel
theorem dX12_tell_11 : decode cX12_tell 11 = .ok (.dup, 1) := by decide +kernel
theorem dX12_tell_12 : decode cX12_tell 12 = .ok (.getfield 98, 3) := by decide +kernel
theorem dX12_tell_15 : decode cX12_tell 15 = .ok (.iconst 1, 1) := by decide +kernel
theorem dX12_tell_16 : decode cX12_tell 16 = .ok (.iadd, 1) := by decide +kernel
theorem dX12_tell_17 : decode cX12_tell 17 = .ok (.putfield 98, 3) := by decide +kernel
theorem dX12_tell_20 : decode cX12_tell 20 = .ok (.return_, 1) := by decide +kernel
theorem dX12_judge_0 : decode cX12_judge 0 = .ok (.aload_n 0, 1) := by decide +kernel
theorem dX12_judge_1 : decode cX12_judge 1 = .ok (.iconst 0, 1) := by decide +kernel
theorem dX12_judge_2 : decode cX12_judge 2 = .ok (.putfield 95, 3) := by decide +kernel
theorem dX12_judge_5 : decode cX12_judge 5 = .ok (.aload_n 0, 1) := by decide +kernel
theorem dX12_judge_6 : decode cX12_judge 6 = .ok (.iload_n 1, 1) := by decide +kernel
theorem dX12_judge_7 : decode cX12_judge 7 = .ok (.invokevirtual 224, 3) := by decide +kernel
theorem dX12_judge_10 : decode cX12_judge 10 = .ok (.ifCond .ne 5, 3) := by decide +kernel
theorem dX12_judge_13 : decode cX12_judge 13 = .ok (.iconst (-1), 1) := by decide +kernel
theorem dX12_judge_14 : decode cX12_judge 14 = .ok (.ireturn, 1) := by decide +kernel
theorem dX12_judge_15 : decode cX12_judge 15 = .ok (.aload_n 0, 1) := by decide +kernel
theorem dX12_judge_16 : decode cX12_judge 16 = .ok (.getfield 9, 3) := by decide +kernel
theorem dX12_judge_19 : decode cX12_judge 19 = .ok (.iload_n 1, 1) := by decide +kernel
theorem dX12_judge_20 : decode cX12_judge 20 = .ok (.iaload, 1) := by decide +kernel
theorem dX12_judge_21 : decode cX12_judge 21 = .ok (.iconst 1, 1) := by decide +kernel
theorem dX12_judge_22 : decode cX12_judge 22 = .ok (.if_icmp .eq 6, 3) := by decide +kernel
theorem dX12_judge_25 : decode cX12_judge 25 = .ok (.bipush (-2), 2) := by decide +kernel
theorem dX12_judge_27 : decode cX12_judge 27 = .ok (.ireturn, 1) := by decide +kernel
theorem dX12_judge_28 : decode cX12_judge 28 = .ok (.aload_n 0, 1) := by decide +kernel
theorem dX12_judge_29 : decode cX12_judge 29 = .ok (.aload_n 0, 1) := by decide +kernel
theorem dX12_judge_30 : decode cX12_judge 30 = .ok (.getfield 9, 3) := by decide +kernel
theorem dX12_judge_33 : decode cX12_judge 33 = .ok (.invokevirtual 249, 3) := by decide +kernel
theorem dX12_judge_36 : decode cX12_judge 36 = .ok (.aload_n 0, 1) := by decide +kernel
theorem dX12_judge_37 : decode cX12_judge 37 = .ok (.aload_n 0, 1) := by decide +kernel
theorem dX12_judge_38 : decode cX12_judge 38 = .ok (.getfield 9, 3) := by decide +kernel
theorem dX12_judge_41 : decode cX12_judge 41 = .ok (.iload_n 1, 1) := by decide +kernel
theorem dX12_judge_42 : decode cX12_judge 42 = .ok (.iconst 0, 1) := by decide +kernel
theorem dX12_judge_43 : decode cX12_judge 43 = .ok (.invokevirtual 235, 3) := by decide +kernel
theorem dX12_judge_46 : decode cX12_judge 46 = .ok (.istore_n 2, 1) := by decide +kernel
theorem dX12_judge_47 : decode cX12_judge 47 = .ok (.aload_n 0, 1) := by decide +kernel
theorem dX12_judge_48 : decode cX12_judge 48 = .ok (.getfield 9, 3) := by decide +kernel
theorem dX12_judge_51 : decode cX12_judge 51 = .ok (.iload_n 1, 1) := by decide +kernel
theorem dX12_judge_52 : decode cX12_judge 52 = .ok (.aload_n 0, 1) := by decide +kernel
theorem dX12_judge_53 : decode cX12_judge 53 = .ok (.iload_n 2, 1) := by decide +kernel
theorem dX12_judge_54 : decode cX12_judge 54 = .ok (.invokevirtual 264, 3) := by decide +kernel
theorem dX12_judge_57 : decode cX12_judge 57 = .ok (.iastore, 1) := by decide +kernel
theorem dX12_judge_58 : decode cX12_judge 58 = .ok (.aload_n 0, 1) := by decide +kernel
theorem dX12_judge_59 : decode cX12_judge 59 = .ok (.iconst 0, 1) := by decide +kernel
theorem dX12_judge_60 : decode cX12_judge 60 = .ok (.putfield 98, 3) := by decide +kernel
theorem dX12_judge_63 : decode cX12_judge 63 = .ok (.aload_n 0, 1) := by decide +kernel
theorem dX12_judge_64 : decode cX12_judge 64 = .ok (.iload_n 2, 1) := by decide +kernel
theorem dX12_judge_65 : decode cX12_judge 65 = .ok (.i2l, 1) := by decide +kernel
theorem dX12_judge_66 : decode cX12_judge 66 = .ok (.invokevirtual 267, 3) := by decide +kernel
theorem dX12_judge_69 : decode cX12_judge 69 = .ok (.aload_n 0, 1) := by decide +kernel
theorem dX12_judge_70 : decode cX12_judge 70 = .ok (.getfield 9, 3) := by decide +kernel
theorem dX12_judge_73 : decode cX12_judge 73 = .ok (.iload_n 1, 1) := by decide +kernel
theorem dX12_judge_74 : decode cX12_judge 74 = .ok (.iaload, 1) := by decide +kernel
theorem dX12_judge_75 : decode cX12_judge 75 = .ok (.ireturn, 1) := by decide +kernel
theorem dX11_diedOf_0 : decode cX11_diedOf 0 = .ok (.iload_n 0, 1) := by decide +kernel
theorem dX11_diedOf_1 : decode cX11_diedOf 1 = .ok (.sipush 255, 3) := by decide +kernel
theorem dX11_diedOf_4 : decode cX11_diedOf 4 = .ok (.iand, 1) := by decide +kernel
theorem dX11_diedOf_5 : decode cX11_diedOf 5 = .ok (.ireturn, 1) := by decide +kernel
theorem dX11_overOf_0 : decode cX11_overOf 0 = .ok (.iload_n 0, 1) := by decide +kernel
theorem dX11_overOf_1 : decode cX11_overOf 1 = .ok (.bipush 8, 2) := by decide +kernel
theorem dX11_overOf_3 : decode cX11_overOf 3 = .ok (.ishr, 1) := by decide +kernel
theorem dX11_overOf_4 : decode cX11_overOf 4 = .ok (.ireturn, 1) := by decide +kernel
theorem dX4_leaveOver_0 : decode cX4_leaveOver 0 = .ok (.iconst 0, 1) := by decide +kernel
theorem dX4_leaveOver_1 : decode cX4_leaveOver 1 = .ok (.istore_n 1, 1) := by decide +kernel
theorem dX4_leaveOver_2 : decode cX4_leaveOver 2 = .ok (.iconst 0, 1) := by decide +kernel
theorem dX4_leaveOver_3 : decode cX4_leaveOver 3 = .ok (.istore_n 2, 1) := by decide +kernel
theorem dX4_leaveOver_4 : decode cX4_leaveOver 4 = .ok (.iload_n 2, 1) := by decide +kernel
theorem dX4_leaveOver_5 : decode cX4_leaveOver 5 = .ok (.aload_n 0, 1) := by decide +kernel
theorem dX4_leaveOver_6 : decode cX4_leaveOver 6 = .ok (.getfield 31, 3) := by decide +kernel
theorem dX4_leaveOver_9 : decode cX4_leaveOver 9 = .ok (.getfield 54, 3) := by decide +kernel
theorem dX4_leaveOver_12 : decode cX4_leaveOver 12 = .ok (.if_icmp .ge 41, 3) := by decide +kernel
theorem dX4_leaveOver_15 : decode cX4_leaveOver 15 = .ok (.aload_n 0, 1) := by decide +kernel
theorem dX4_leaveOver_16 : decode cX4_leaveOver 16 = .ok (.getfield 9, 3) := by decide +kernel
theorem dX4_leaveOver_19 : decode cX4_leaveOver 19 = .ok (.iload_n 2, 1) := by decide +kernel
theorem dX4_leaveOver_20 : decode cX4_leaveOver 20 = .ok (.iaload, 1) := by decide +kernel
theorem dX4_leaveOver_21 : decode cX4_leaveOver 21 = .ok (.ifCond .eq 13, 3) := by decide +kernel
theorem dX4_leaveOver_24 : decode cX4_leaveOver 24 = .ok (.aload_n 0, 1) := by decide +kernel
theorem dX4_leaveOver_25 : decode cX4_leaveOver 25 = .ok (.getfield 9, 3) := by decide +kernel
theorem dX4_leaveOver_28 : decode cX4_leaveOver 28 = .ok (.iload_n 2, 1) := by decide +kernel
theorem dX4_leaveOver_29 : decode cX4_leaveOver 29 = .ok (.iaload, 1) := by decide +kernel
theorem dX4_leaveOver_30 : decode cX4_leaveOver 30 = .ok (.iconst 1, 1) := by decide +kernel
theorem dX4_leaveOver_31 : decode cX4_leaveOver 31 = .ok (.if_icmp .ne 16, 3) := by decide +kernel
theorem dX4_leaveOver_34 : decode cX4_leaveOver 34 = .ok (.aload_n 0, 1) := by decide +kernel
theorem dX4_leaveOver_35 : decode cX4_leaveOver 35 = .ok (.getfield 9, 3) := by decide +kernel
theorem dX4_leaveOver_38 : decode cX4_leaveOver 38 = .ok (.iload_n 2, 1) := by decide +kernel
theorem dX4_leaveOver_39 : decode cX4_leaveOver 39 = .ok (.iconst 5, 1) := by decide +kernel
theorem dX4_leaveOver_40 : decode cX4_leaveOver 40 = .ok (.iastore, 1) := by decide +kernel
theorem dX4_leaveOver_41 : decode cX4_leaveOver 41 = .ok (.iload_n 1, 1) := by decide +kernel
theorem dX4_leaveOver_42 : decode cX4_leaveOver 42 = .ok (.iconst 1, 1) := by decide +kernel
theorem dX4_leaveOver_43 : decode cX4_leaveOver 43 = .ok (.iload_n 2, 1) := by decide +kernel
theorem dX4_leaveOver_44 : decode cX4_leaveOver 44 = .ok (.ishl, 1) := by decide +kernel
theorem dX4_leaveOver_45 : decode cX4_leaveOver 45 = .ok (.ior, 1) := by decide +kernel
theorem dX4_leaveOver_46 : decode cX4_leaveOver 46 = .ok (.istore_n 1, 1) := by decide +kernel
theorem dX4_leaveOver_47 : decode cX4_leaveOver 47 = .ok (.iinc 2 1, 3) := by decide +kernel
theorem dX4_leaveOver_50 : decode cX4_leaveOver 50 = .ok (.goto (-46), 3) := by decide +kernel
theorem dX4_leaveOver_53 : decode cX4_leaveOver 53 = .ok (.iload_n 1, 1) := by decide +kernel
theorem dX4_leaveOver_54 : decode cX4_leaveOver 54 = .ok (.ireturn, 1) := by decide +kernel
theorem dX4_night_0 : decode cX4_night 0 = .ok (.iconst 0, 1) := by decide +kernel
theorem dX4_night_1 : decode cX4_night 1 = .ok (.istore_n 2, 1) := by decide +kernel
theorem dX4_night_2 : decode cX4_night 2 = .ok (.iconst 0, 1) := by decide +kernel
theorem dX4_night_3 : decode cX4_night 3 = .ok (.istore_n 3, 1) := by decide +kernel
theorem dX4_night_4 : decode cX4_night 4 = .ok (.iload_n 3, 1) := by decide +kernel
theorem dX4_night_5 : decode cX4_night 5 = .ok (.aload_n 0, 1) := by decide +kernel
theorem dX4_night_6 : decode cX4_night 6 = .ok (.getfield 31, 3) := by decide +kernel
theorem dX4_night_9 : decode cX4_night 9 = .ok (.getfield 54, 3) := by decide +kernel
theorem dX4_night_12 : decode cX4_night 12 = .ok (.if_icmp .ge 73, 3) := by decide +kernel
theorem dX4_night_15 : decode cX4_night 15 = .ok (.aload_n 0, 1) := by decide +kernel
theorem dX4_night_16 : decode cX4_night 16 = .ok (.iload_n 3, 1) := by decide +kernel
theorem dX4_night_17 : decode cX4_night 17 = .ok (.invokevirtual 63, 3) := by decide +kernel
theorem dX4_night_20 : decode cX4_night 20 = .ok (.ifCond .eq 59, 3) := by decide +kernel
theorem dX4_night_23 : decode cX4_night 23 = .ok (.aload_n 0, 1) := by decide +kernel
theorem dX4_night_24 : decode cX4_night 24 = .ok (.getfield 15, 3) := by decide +kernel
theorem dX4_night_27 : decode cX4_night 27 = .ok (.iload_n 3, 1) := by decide +kernel
theorem dX4_night_28 : decode cX4_night 28 = .ok (.iaload, 1) := by decide +kernel
theorem dX4_night_29 : decode cX4_night 29 = .ok (.ifCond .le 50, 3) := by decide +kernel
theorem dX4_night_32 : decode cX4_night 32 = .ok (.aload_n 0, 1) := by decide +kernel
theorem dX4_night_33 : decode cX4_night 33 = .ok (.getfield 18, 3) := by decide +kernel
theorem dX4_night_36 : decode cX4_night 36 = .ok (.iload_n 3, 1) := by decide +kernel
theorem dX4_night_37 : decode cX4_night 37 = .ok (.dup2, 1) := by decide +kernel
theorem dX4_night_38 : decode cX4_night 38 = .ok (.iaload, 1) := by decide +kernel
theorem dX4_night_39 : decode cX4_night 39 = .ok (.iconst 1, 1) := by decide +kernel
theorem dX4_night_40 : decode cX4_night 40 = .ok (.iadd, 1) := by decide +kernel
theorem dX4_night_41 : decode cX4_night 41 = .ok (.iastore, 1) := by decide +kernel
theorem dX4_night_42 : decode cX4_night 42 = .ok (.aload_n 0, 1) := by decide +kernel
theorem dX4_night_43 : decode cX4_night 43 = .ok (.iload_n 3, 1) := by decide +kernel
theorem dX4_night_44 : decode cX4_night 44 = .ok (.aload_n 0, 1) := by decide +kernel
theorem dX4_night_45 : decode cX4_night 45 = .ok (.getfield 15, 3) := by decide +kernel
theorem dX4_night_48 : decode cX4_night 48 = .ok (.iload_n 3, 1) := by decide +kernel
theorem dX4_night_49 : decode cX4_night 49 = .ok (.iaload, 1) := by decide +kernel
theorem dX4_night_50 : decode cX4_night 50 = .ok (.aload_n 0, 1) := by decide +kernel
theorem dX4_night_51 : decode cX4_night 51 = .ok (.getfield 18, 3) := by decide +kernel
theorem dX4_night_54 : decode cX4_night 54 = .ok (.iload_n 3, 1) := by decide +kernel
theorem dX4_night_55 : decode cX4_night 55 = .ok (.iaload, 1) := by decide +kernel
theorem dX4_night_56 : decode cX4_night 56 = .ok (.aload_n 0, 1) := by decide +kernel
theorem dX4_night_57 : decode cX4_night 57 = .ok (.getfield 24, 3) := by decide +kernel
theorem dX4_night_60 : decode cX4_night 60 = .ok (.invokevirtual 115, 3) := by decide +kernel
theorem dX4_night_63 : decode cX4_night 63 = .ok (.ifCond .gt 16, 3) := by decide +kernel
theorem dX4_night_66 : decode cX4_night 66 = .ok (.aload_n 0, 1) := by decide +kernel
theorem dX4_night_67 : decode cX4_night 67 = .ok (.getfield 9, 3) := by decide +kernel
theorem dX4_night_70 : decode cX4_night 70 = .ok (.iload_n 3, 1) := by decide +kernel
theorem dX4_night_71 : decode cX4_night 71 = .ok (.iconst 2, 1) := by decide +kernel
theorem dX4_night_72 : decode cX4_night 72 = .ok (.iastore, 1) := by decide +kernel
theorem dX4_night_73 : decode cX4_night 73 = .ok (.iload_n 2, 1) := by decide +kernel
theorem dX4_night_74 : decode cX4_night 74 = .ok (.iconst 1, 1) := by decide +kernel
theorem dX4_night_75 : decode cX4_night 75 = .ok (.iload_n 3, 1) := by decide +kernel
theorem dX4_night_76 : decode cX4_night 76 = .ok (.ishl, 1) := by decide +kernel
theorem dX4_night_77 : decode cX4_night 77 = .ok (.ior, 1) := by decide +kernel
theorem dX4_night_78 : decode cX4_night 78 = .ok (.istore_n 2, 1) := by decide +kernel
theorem dX4_night_79 : decode cX4_night 79 = .ok (.iinc 3 1, 3) := by decide +kernel
theorem dX4_night_82 : decode cX4_night 82 = .ok (.goto (-78), 3) := by decide +kernel
theorem dX4_night_85 : decode cX4_night 85 = .ok (.iconst 0, 1) := by decide +kernel
theorem dX4_night_86 : decode cX4_night 86 = .ok (.istore_n 3, 1) := by decide +kernel
theorem dX4_night_87 : decode cX4_night 87 = .ok (.iload_n 3, 1) := by decide +kernel
theorem dX4_night_88 : decode cX4_night 88 = .ok (.aload_n 0, 1) := by decide +kernel
theorem dX4_night_89 : decode cX4_night 89 = .ok (.getfield 35, 3) := by decide +kernel
theorem dX4_night_92 : decode cX4_night 92 = .ok (.getfield 119, 3) := by decide +kernel
theorem dX4_night_95 : decode cX4_night 95 = .ok (.if_icmp .ge 35, 3) := by decide +kernel
theorem dX4_night_98 : decode cX4_night 98 = .ok (.aload_n 0, 1) := by decide +kernel
theorem dX4_night_99 : decode cX4_night 99 = .ok (.getfield 21, 3) := by decide +kernel
theorem dX4_night_102 : decode cX4_night 102 = .ok (.iload_n 3, 1) := by decide +kernel
theorem dX4_night_103 : decode cX4_night 103 = .ok (.iconst 0, 1) := by decide +kernel
theorem dX4_night_104 : decode cX4_night 104 = .ok (.aload_n 0, 1) := by decide +kernel
theorem dX4_night_105 : decode cX4_night 105 = .ok (.getfield 21, 3) := by decide +kernel
theorem dX4_night_108 : decode cX4_night 108 = .ok (.iload_n 3, 1) := by decide +kernel
theorem dX4_night_109 : decode cX4_night 109 = .ok (.iaload, 1) := by decide +kernel
theorem dX4_night_110 : decode cX4_night 110 = .ok (.aload_n 0, 1) := by decide +kernel
theorem dX4_night_111 : decode cX4_night 111 = .ok (.getfield 35, 3) := by decide +kernel
theorem dX4_night_114 : decode cX4_night 114 = .ok (.getfield 120, 3) := by decide +kernel
theorem dX4_night_117 : decode cX4_night 117 = .ok (.iload_n 3, 1) := by decide +kernel
theorem dX4_night_118 : decode cX4_night 118 = .ok (.iaload, 1) := by decide +kernel
theorem dX4_night_119 : decode cX4_night 119 = .ok (.isub, 1) := by decide +kernel
theorem dX4_night_120 : decode cX4_night 120 = .ok (.invokestatic 72, 3) := by decide +kernel
theorem dX4_night_123 : decode cX4_night 123 = .ok (.iastore, 1) := by decide +kernel
theorem dX4_night_124 : decode cX4_night 124 = .ok (.iinc 3 1, 3) := by decide +kernel
theorem dX4_night_127 : decode cX4_night 127 = .ok (.goto (-40), 3) := by decide +kernel
theorem dX4_night_130 : decode cX4_night 130 = .ok (.aload_n 0, 1) := by decide +kernel
theorem dX4_night_131 : decode cX4_night 131 = .ok (.dup, 1) := by decide +kernel
theorem dX4_night_132 : decode cX4_night 132 = .ok (.getfield 24, 3) := by decide +kernel
theorem dX4_night_135 : decode cX4_night 135 = .ok (.iconst 1, 1) := by decide +kernel
theorem dX4_night_136 : decode cX4_night 136 = .ok (.iadd, 1) := by decide +kernel
theorem dX4_night_137 : decode cX4_night 137 = .ok (.putfield 24, 3) := by decide +kernel
theorem dX4_night_140 : decode cX4_night 140 = .ok (.aload_n 0, 1) := by decide +kernel
theorem dX4_night_141 : decode cX4_night 141 = .ok (.getfield 24, 3) := by decide +kernel
theorem dX4_night_144 : decode cX4_night 144 = .ok (.iload_n 1, 1) := by decide +kernel
theorem dX4_night_145 : decode cX4_night 145 = .ok (.if_icmp .ne 15, 3) := by decide +kernel
theorem dX4_night_148 : decode cX4_night 148 = .ok (.iload_n 2, 1) := by decide +kernel
theorem dX4_night_149 : decode cX4_night 149 = .ok (.aload_n 0, 1) := by decide +kernel
theorem dX4_night_150 : decode cX4_night 150 = .ok (.invokevirtual 123, 3) := by decide +kernel
theorem dX4_night_153 : decode cX4_night 153 = .ok (.bipush 8, 2) := by decide +kernel
theorem dX4_night_155 : decode cX4_night 155 = .ok (.ishl, 1) := by decide +kernel
theorem dX4_night_156 : decode cX4_night 156 = .ok (.ior, 1) := by decide +kernel
theorem dX4_night_157 : decode cX4_night 157 = .ok (.goto 4, 3) := by decide +kernel
theorem dX4_night_160 : decode cX4_night 160 = .ok (.iload_n 2, 1) := by decide +kernel
theorem dX4_night_161 : decode cX4_night 161 = .ok (.ireturn, 1) := by decide +kernel
theorem dX4_pass_0 : decode cX4_pass 0 = .ok (.iconst 0, 1) := by decide +kernel
theorem dX4_pass_1 : decode cX4_pass 1 = .ok (.istore_n 3, 1) := by decide +kernel
theorem dX4_pass_2 : decode cX4_pass 2 = .ok (.iconst 0, 1) := by decide +kernel
theorem dX4_pass_3 : decode cX4_pass 3 = .ok (.istore 4, 2) := by decide +kernel
theorem dX4_pass_5 : decode cX4_pass 5 = .ok (.iload 4, 2) := by decide +kernel
theorem dX4_pass_7 : decode cX4_pass 7 = .ok (.iload_n 1, 1) := by decide +kernel
theorem dX4_pass_8 : decode cX4_pass 8 = .ok (.if_icmp .ge 17, 3) := by decide +kernel
theorem dX4_pass_11 : decode cX4_pass 11 = .ok (.iload_n 3, 1) := by decide +kernel
theorem dX4_pass_12 : decode cX4_pass 12 = .ok (.aload_n 0, 1) := by decide +kernel
theorem dX4_pass_13 : decode cX4_pass 13 = .ok (.iload_n 2, 1) := by decide +kernel
theorem dX4_pass_14 : decode cX4_pass 14 = .ok (.invokevirtual 112, 3) := by decide +kernel
theorem dX4_pass_17 : decode cX4_pass 17 = .ok (.ior, 1) := by decide +kernel
theorem dX4_pass_18 : decode cX4_pass 18 = .ok (.istore_n 3, 1) := by decide +kernel
theorem dX4_pass_19 : decode cX4_pass 19 = .ok (.iinc 4 1, 3) := by decide +kernel
theorem dX4_pass_22 : decode cX4_pass 22 = .ok (.goto (-17), 3) := by decide +kernel
theorem dX4_pass_25 : decode cX4_pass 25 = .ok (.iload_n 3, 1) := by decide +kernel
theorem dX4_pass_26 : decode cX4_pass 26 = .ok (.ireturn, 1) := by decide +kernel
theorem dX7_tell__0 : decode cX7_tell_ 0 = .ok (.aload_n 0, 1) := by decide +kernel
theorem dX7_tell__1 : decode cX7_tell_ 1 = .ok (.lload_n 1, 1) := by decide +kernel
theorem dX7_tell__2 : decode cX7_tell_ 2 = .ok (.invokevirtual 24, 3) := by decide +kernel
theorem dX7_tell__5 : decode cX7_tell_ 5 = .ok (.aload_n 0, 1) := by decide +kernel
theorem dX7_tell__6 : decode cX7_tell_ 6 = .ok (.lload_n 3, 1) := by decide +kernel
theorem dX7_tell__7 : decode cX7_tell_ 7 = .ok (.invokevirtual 20, 3) := by decide +kernel
theorem dX7_tell__10 : decode cX7_tell_ 10 = .ok (.return_, 1) := by decide +kernel
theorem dX11_nights_0 : decode cX11_nights 0 = .ok (.iload_n 1, 1) := by decide +kernel
theorem dX11_nights_1 : decode cX11_nights 1 = .ok (.ifCond .lt 9, 3) := by decide +kernel
theorem dX11_nights_4 : decode cX11_nights 4 = .ok (.iload_n 1, 1) := by decide +kernel
theorem dX11_nights_5 : decode cX11_nights 5 = .ok (.bipush 60, 2) := by decide +kernel
theorem dX11_nights_7 : decode cX11_nights 7 = .ok (.if_icmp .le 5, 3) := by decide +kernel
theorem dX11_nights_10 : decode cX11_nights 10 = .ok (.iconst (-1), 1) := by decide +kernel
theorem dX11_nights_11 : decode cX11_nights 11 = .ok (.ireturn, 1) := by decide +kernel
theorem dX11_nights_12 : decode cX11_nights 12 = .ok (.aload_n 0, 1) := by decide +kernel
theorem dX11_nights_13 : decode cX11_nights 13 = .ok (.getfield 75, 3) := by decide +kernel
theorem dX11_nights_16 : decode cX11_nights 16 = .ok (.aload_n 0, 1) := by decide +kernel
theorem dX11_nights_17 : decode cX11_nights 17 = .ok (.getfield 65, 3) := by decide +kernel
theorem dX11_nights_20 : decode cX11_nights 20 = .ok (.invokevirtual 212, 3) := by decide +kernel
theorem dX11_nights_23 : decode cX11_nights 23 = .ok (.aload_n 0, 1) := by decide +kernel
theorem dX11_nights_24 : decode cX11_nights 24 = .ok (.getfield 65, 3) := by decide +kernel
theorem dX11_nights_27 : decode cX11_nights 27 = .ok (.iload_n 1, 1) := by decide +kernel
theorem dX11_nights_28 : decode cX11_nights 28 = .ok (.aload_n 0, 1) := by decide +kernel
theorem dX11_nights_29 : decode cX11_nights 29 = .ok (.getfield 100, 3) := by decide +kernel
theorem dX11_nights_32 : decode cX11_nights 32 = .ok (.invokevirtual 232, 3) := by decide +kernel
theorem dX11_nights_35 : decode cX11_nights 35 = .ok (.istore_n 2, 1) := by decide +kernel
theorem dX11_nights_36 : decode cX11_nights 36 = .ok (.iload_n 1, 1) := by decide +kernel
theorem dX11_nights_37 : decode cX11_nights 37 = .ok (.ifCond .le 10, 3) := by decide +kernel
theorem dX11_nights_40 : decode cX11_nights 40 = .ok (.aload_n 0, 1) := by decide +kernel
theorem dX11_nights_41 : decode cX11_nights 41 = .ok (.getfield 75, 3) := by decide +kernel
theorem dX11_nights_44 : decode cX11_nights 44 = .ok (.invokevirtual 235, 3) := by decide +kernel
theorem dX11_nights_47 : decode cX11_nights 47 = .ok (.aload_n 0, 1) := by decide +kernel
theorem dX11_nights_48 : decode cX11_nights 48 = .ok (.getfield 19, 3) := by decide +kernel
theorem dX11_nights_51 : decode cX11_nights 51 = .ok (.iload_n 2, 1) := by decide +kernel
theorem dX11_nights_52 : decode cX11_nights 52 = .ok (.invokestatic 238, 3) := by decide +kernel
theorem dX11_nights_55 : decode cX11_nights 55 = .ok (.i2l, 1) := by decide +kernel
theorem dX11_nights_56 : decode cX11_nights 56 = .ok (.iload_n 2, 1) := by decide +kernel
theorem dX11_nights_57 : decode cX11_nights 57 = .ok (.invokestatic 241, 3) := by decide +kernel
theorem dX11_nights_60 : decode cX11_nights 60 = .ok (.i2l, 1) := by decide +kernel
theorem dX11_nights_61 : decode cX11_nights 61 = .ok (.invokevirtual 244, 3) := by decide +kernel
theorem dX11_nights_64 : decode cX11_nights 64 = .ok (.aload_n 0, 1) := by decide +kernel
theorem dX11_nights_65 : decode cX11_nights 65 = .ok (.getfield 65, 3) := by decide +kernel
theorem dX11_nights_68 : decode cX11_nights 68 = .ok (.getfield 206, 3) := by decide +kernel
theorem dX11_nights_71 : decode cX11_nights 71 = .ok (.ireturn, 1) := by decide +kernel
theorem dX12_goNight_0 : decode cX12_goNight 0 = .ok (.iconst 0, 1) := by decide +kernel
theorem dX12_goNight_1 : decode cX12_goNight 1 = .ok (.istore_n 2, 1) := by decide +kernel
theorem dX12_goNight_2 : decode cX12_goNight 2 = .ok (.iload_n 2, 1) := by decide +kernel
theorem dX12_goNight_3 : decode cX12_goNight 3 = .ok (.aload_n 0, 1) := by decide +kernel
theorem dX12_goNight_4 : decode cX12_goNight 4 = .ok (.getfield 101, 3) := by decide +kernel
theorem dX12_goNight_7 : decode cX12_goNight 7 = .ok (.if_icmp .ge 50, 3) := by decide +kernel
theorem dX12_goNight_10 : decode cX12_goNight 10 = .ok (.aload_n 1, 1) := by decide +kernel
theorem dX12_goNight_11 : decode cX12_goNight 11 = .ok (.iload_n 2, 1) := by decide +kernel
theorem dX12_goNight_12 : decode cX12_goNight 12 = .ok (.iaload, 1) := by decide +kernel
theorem dX12_goNight_13 : decode cX12_goNight 13 = .ok (.ifCond .ne 38, 3) := by decide +kernel
theorem dX12_goNight_16 : decode cX12_goNight 16 = .ok (.aload_n 1, 1) := by decide +kernel
theorem dX12_goNight_17 : decode cX12_goNight 17 = .ok (.bipush 6, 2) := by decide +kernel
theorem dX12_goNight_19 : decode cX12_goNight 19 = .ok (.iload_n 2, 1) := by decide +kernel
theorem dX12_goNight_20 : decode cX12_goNight 20 = .ok (.iadd, 1) := by decide +kernel
theorem dX12_goNight_21 : decode cX12_goNight 21 = .ok (.iaload, 1) := by decide +kernel
theorem dX12_goNight_22 : decode cX12_goNight 22 = .ok (.ifCond .ne 6, 3) := by decide +kernel
theorem dX12_goNight_25 : decode cX12_goNight 25 = .ok (.goto 26, 3) := by decide +kernel
theorem dX12_goNight_28 : decode cX12_goNight 28 = .ok (.aload_n 1, 1) := by decide +kernel
theorem dX12_goNight_29 : decode cX12_goNight 29 = .ok (.bipush 12, 2) := by decide +kernel
theorem dX12_goNight_31 : decode cX12_goNight 31 = .ok (.iload_n 2, 1) := by decide +kernel
theorem dX12_goNight_32 : decode cX12_goNight 32 = .ok (.iadd, 1) := by decide +kernel
theorem dX12_goNight_33 : decode cX12_goNight 33 = .ok (.dup2, 1) := by decide +kernel
theorem dX12_goNight_34 : decode cX12_goNight 34 = .ok (.iaload, 1) := by decide +kernel
theorem dX12_goNight_35 : decode cX12_goNight 35 = .ok (.iconst 1, 1) := by decide +kernel
theorem dX12_goNight_36 : decode cX12_goNight 36 = .ok (.iadd, 1) := by decide +kernel
theorem dX12_goNight_37 : decode cX12_goNight 37 = .ok (.iastore, 1) := by decide +kernel
theorem dX12_goNight_38 : decode cX12_goNight 38 = .ok (.aload_n 0, 1) := by decide +kernel
theorem dX12_goNight_39 : decode cX12_goNight 39 = .ok (.aload_n 1, 1) := by decide +kernel
theorem dX12_goNight_40 : decode cX12_goNight 40 = .ok (.iload_n 2, 1) := by decide +kernel
theorem dX12_goNight_41 : decode cX12_goNight 41 = .ok (.invokevirtual 231, 3) := by decide +kernel
theorem dX12_goNight_44 : decode cX12_goNight 44 = .ok (.ifCond .gt 7, 3) := by decide +kernel
theorem dX12_goNight_47 : decode cX12_goNight 47 = .ok (.aload_n 1, 1) := by decide +kernel
theorem dX12_goNight_48 : decode cX12_goNight 48 = .ok (.iload_n 2, 1) := by decide +kernel
theorem dX12_goNight_49 : decode cX12_goNight 49 = .ok (.iconst 2, 1) := by decide +kernel
theorem dX12_goNight_50 : decode cX12_goNight 50 = .ok (.iastore, 1) := by decide +kernel
theorem dX12_goNight_51 : decode cX12_goNight 51 = .ok (.iinc 2 1, 3) := by decide +kernel
theorem dX12_goNight_54 : decode cX12_goNight 54 = .ok (.goto (-52), 3) := by decide +kernel
theorem dX12_goNight_57 : decode cX12_goNight 57 = .ok (.iconst 0, 1) := by decide +kernel
theorem dX12_goNight_58 : decode cX12_goNight 58 = .ok (.istore_n 2, 1) := by decide +kernel
theorem dX12_goNight_59 : decode cX12_goNight 59 = .ok (.iload_n 2, 1) := by decide +kernel
theorem dX12_goNight_60 : decode cX12_goNight 60 = .ok (.aload_n 0, 1) := by decide +kernel
theorem dX12_goNight_61 : decode cX12_goNight 61 = .ok (.getfield 181, 3) := by decide +kernel
theorem dX12_goNight_64 : decode cX12_goNight 64 = .ok (.if_icmp .ge 32, 3) := by decide +kernel
theorem dX12_goNight_67 : decode cX12_goNight 67 = .ok (.aload_n 1, 1) := by decide +kernel
theorem dX12_goNight_68 : decode cX12_goNight 68 = .ok (.bipush 18, 2) := by decide +kernel
theorem dX12_goNight_70 : decode cX12_goNight 70 = .ok (.iload_n 2, 1) := by decide +kernel
theorem dX12_goNight_71 : decode cX12_goNight 71 = .ok (.iadd, 1) := by decide +kernel
theorem dX12_goNight_72 : decode cX12_goNight 72 = .ok (.iconst 0, 1) := by decide +kernel
theorem dX12_goNight_73 : decode cX12_goNight 73 = .ok (.aload_n 1, 1) := by decide +kernel
theorem dX12_goNight_74 : decode cX12_goNight 74 = .ok (.bipush 18, 2) := by decide +kernel
theorem dX12_goNight_76 : decode cX12_goNight 76 = .ok (.iload_n 2, 1) := by decide +kernel
theorem dX12_goNight_77 : decode cX12_goNight 77 = .ok (.iadd, 1) := by decide +kernel
theorem dX12_goNight_78 : decode cX12_goNight 78 = .ok (.iaload, 1) := by decide +kernel
theorem dX12_goNight_79 : decode cX12_goNight 79 = .ok (.aload_n 0, 1) := by decide +kernel
theorem dX12_goNight_80 : decode cX12_goNight 80 = .ok (.getfield 35, 3) := by decide +kernel
theorem dX12_goNight_83 : decode cX12_goNight 83 = .ok (.iload_n 2, 1) := by decide +kernel
theorem dX12_goNight_84 : decode cX12_goNight 84 = .ok (.iaload, 1) := by decide +kernel
theorem dX12_goNight_85 : decode cX12_goNight 85 = .ok (.isub, 1) := by decide +kernel
theorem dX12_goNight_86 : decode cX12_goNight 86 = .ok (.invokestatic 217, 3) := by decide +kernel
theorem dX12_goNight_89 : decode cX12_goNight 89 = .ok (.iastore, 1) := by decide +kernel
theorem dX12_goNight_90 : decode cX12_goNight 90 = .ok (.iinc 2 1, 3) := by decide +kernel
theorem dX12_goNight_93 : decode cX12_goNight 93 = .ok (.goto (-34), 3) := by decide +kernel
theorem dX12_goNight_96 : decode cX12_goNight 96 = .ok (.aload_n 1, 1) := by decide +kernel
theorem dX12_goNight_97 : decode cX12_goNight 97 = .ok (.bipush 26, 2) := by decide +kernel
theorem dX12_goNight_99 : decode cX12_goNight 99 = .ok (.dup2, 1) := by decide +kernel
theorem dX12_goNight_100 : decode cX12_goNight 100 = .ok (.iaload, 1) := by decide +kernel
theorem dX12_goNight_101 : decode cX12_goNight 101 = .ok (.iconst 1, 1) := by decide +kernel
theorem dX12_goNight_102 : decode cX12_goNight 102 = .ok (.iadd, 1) := by decide +kernel
theorem dX12_goNight_103 : decode cX12_goNight 103 = .ok (.iastore, 1) := by decide +kernel
theorem dX12_goNight_104 : decode cX12_goNight 104 = .ok (.aload_n 1, 1) := by decide +kernel
theorem dX12_goNight_105 : decode cX12_goNight 105 = .ok (.bipush 26, 2) := by decide +kernel
theorem dX12_goNight_107 : decode cX12_goNight 107 = .ok (.iaload, 1) := by decide +kernel
theorem dX12_goNight_108 : decode cX12_goNight 108 = .ok (.aload_n 0, 1) := by decide +kernel
theorem dX12_goNight_109 : decode cX12_goNight 109 = .ok (.getfield 41, 3) := by decide +kernel
theorem dX12_goNight_112 : decode cX12_goNight 112 = .ok (.if_icmp .eq 4, 3) := by decide +kernel
theorem dX12_goNight_115 : decode cX12_goNight 115 = .ok (.return_, 1) := by decide +kernel
theorem dX12_goNight_116 : decode cX12_goNight 116 = .ok (.iconst 0, 1) := by decide +kernel
theorem dX12_goNight_117 : decode cX12_goNight 117 = .ok (.istore_n 2, 1) := by decide +kernel
theorem dX12_goNight_118 : decode cX12_goNight 118 = .ok (.iload_n 2, 1) := by decide +kernel
theorem dX12_goNight_119 : decode cX12_goNight 119 = .ok (.aload_n 0, 1) := by decide +kernel
theorem dX12_goNight_120 : decode cX12_goNight 120 = .ok (.getfield 101, 3) := by decide +kernel
theorem dX12_goNight_123 : decode cX12_goNight 123 = .ok (.if_icmp .ge 26, 3) := by decide +kernel
theorem dX12_goNight_126 : decode cX12_goNight 126 = .ok (.aload_n 1, 1) := by decide +kernel
theorem dX12_goNight_127 : decode cX12_goNight 127 = .ok (.iload_n 2, 1) := by decide +kernel
theorem dX12_goNight_128 : decode cX12_goNight 128 = .ok (.iaload, 1) := by decide +kernel
theorem dX12_goNight_129 : decode cX12_goNight 129 = .ok (.ifCond .eq 10, 3) := by decide +kernel
theorem dX12_goNight_132 : decode cX12_goNight 132 = .ok (.aload_n 1, 1) := by decide +kernel
theorem dX12_goNight_133 : decode cX12_goNight 133 = .ok (.iload_n 2, 1) := by decide +kernel
theorem dX12_goNight_134 : decode cX12_goNight 134 = .ok (.iaload, 1) := by decide +kernel
theorem dX12_goNight_135 : decode cX12_goNight 135 = .ok (.iconst 1, 1) := by decide +kernel
theorem dX12_goNight_136 : decode cX12_goNight 136 = .ok (.if_icmp .ne 7, 3) := by decide +kernel
theorem dX12_goNight_139 : decode cX12_goNight 139 = .ok (.aload_n 1, 1) := by decide +kernel
theorem dX12_goNight_140 : decode cX12_goNight 140 = .ok (.iload_n 2, 1) := by decide +kernel
theorem dX12_goNight_141 : decode cX12_goNight 141 = .ok (.iconst 5, 1) := by decide +kernel
theorem dX12_goNight_142 : decode cX12_goNight 142 = .ok (.iastore, 1) := by decide +kernel
theorem dX12_goNight_143 : decode cX12_goNight 143 = .ok (.iinc 2 1, 3) := by decide +kernel
theorem dX12_goNight_146 : decode cX12_goNight 146 = .ok (.goto (-28), 3) := by decide +kernel
theorem dX12_goNight_149 : decode cX12_goNight 149 = .ok (.return_, 1) := by decide +kernel
theorem dX12_ofKind_0 : decode cX12_ofKind 0 = .ok (.iconst 0, 1) := by decide +kernel
theorem dX12_ofKind_1 : decode cX12_ofKind 1 = .ok (.istore_n 3, 1) := by decide +kernel
theorem dX12_ofKind_2 : decode cX12_ofKind 2 = .ok (.iconst 0, 1) := by decide +kernel
theorem dX12_ofKind_3 : decode cX12_ofKind 3 = .ok (.istore 4, 2) := by decide +kernel
theorem dX12_ofKind_5 : decode cX12_ofKind 5 = .ok (.iload 4, 2) := by decide +kernel
theorem dX12_ofKind_7 : decode cX12_ofKind 7 = .ok (.aload_n 0, 1) := by decide +kernel
theorem dX12_ofKind_8 : decode cX12_ofKind 8 = .ok (.getfield 101, 3) := by decide +kernel
theorem dX12_ofKind_11 : decode cX12_ofKind 11 = .ok (.if_icmp .ge 28, 3) := by decide +kernel
theorem dX12_ofKind_14 : decode cX12_ofKind 14 = .ok (.iload_n 3, 1) := by decide +kernel
theorem dX12_ofKind_15 : decode cX12_ofKind 15 = .ok (.aload_n 1, 1) := by decide +kernel
theorem dX12_ofKind_16 : decode cX12_ofKind 16 = .ok (.iload 4, 2) := by decide +kernel
theorem dX12_ofKind_18 : decode cX12_ofKind 18 = .ok (.iaload, 1) := by decide +kernel
theorem dX12_ofKind_19 : decode cX12_ofKind 19 = .ok (.iload_n 2, 1) := by decide +kernel
theorem dX12_ofKind_20 : decode cX12_ofKind 20 = .ok (.if_icmp .ne 10, 3) := by decide +kernel
theorem dX12_ofKind_23 : decode cX12_ofKind 23 = .ok (.iconst 1, 1) := by decide +kernel
theorem dX12_ofKind_24 : decode cX12_ofKind 24 = .ok (.iload 4, 2) := by decide +kernel
theorem dX12_ofKind_26 : decode cX12_ofKind 26 = .ok (.ishl, 1) := by decide +kernel
theorem dX12_ofKind_27 : decode cX12_ofKind 27 = .ok (.goto 4, 3) := by decide +kernel
theorem dX12_ofKind_30 : decode cX12_ofKind 30 = .ok (.iconst 0, 1) := by decide +kernel
theorem dX12_ofKind_31 : decode cX12_ofKind 31 = .ok (.ior, 1) := by decide +kernel
theorem dX12_ofKind_32 : decode cX12_ofKind 32 = .ok (.istore_n 3, 1) := by decide +kernel
theorem dX12_ofKind_33 : decode cX12_ofKind 33 = .ok (.iinc 4 1, 3) := by decide +kernel
theorem dX12_ofKind_36 : decode cX12_ofKind 36 = .ok (.goto (-31), 3) := by decide +kernel
theorem dX12_ofKind_39 : decode cX12_ofKind 39 = .ok (.iload_n 3, 1) := by decide +kernel
theorem dX12_ofKind_40 : decode cX12_ofKind 40 = .ok (.ireturn, 1) := by decide +kernel
theorem dX12_nights_0 : decode cX12_nights 0 = .ok (.aload_n 0, 1) := by decide +kernel
theorem dX12_nights_1 : decode cX12_nights 1 = .ok (.iconst 0, 1) := by decide +kernel
theorem dX12_nights_2 : decode cX12_nights 2 = .ok (.putfield 95, 3) := by decide +kernel
theorem dX12_nights_5 : decode cX12_nights 5 = .ok (.iload_n 1, 1) := by decide +kernel
theorem dX12_nights_6 : decode cX12_nights 6 = .ok (.iconst 0, 1) := by decide +kernel
theorem dX12_nights_7 : decode cX12_nights 7 = .ok (.bipush 60, 2) := by decide +kernel
theorem dX12_nights_9 : decode cX12_nights 9 = .ok (.invokestatic 104, 3) := by decide +kernel
theorem dX12_nights_12 : decode cX12_nights 12 = .ok (.ifCond .ne 5, 3) := by decide +kernel
theorem dX12_nights_15 : decode cX12_nights 15 = .ok (.iconst (-1), 1) := by decide +kernel
theorem dX12_nights_16 : decode cX12_nights 16 = .ok (.ireturn, 1) := by decide +kernel
theorem dX12_nights_17 : decode cX12_nights 17 = .ok (.iload_n 1, 1) := by decide +kernel
theorem dX12_nights_18 : decode cX12_nights 18 = .ok (.ifCond .le 11, 3) := by decide +kernel
theorem dX12_nights_21 : decode cX12_nights 21 = .ok (.aload_n 0, 1) := by decide +kernel
theorem dX12_nights_22 : decode cX12_nights 22 = .ok (.aload_n 0, 1) := by decide +kernel
theorem dX12_nights_23 : decode cX12_nights 23 = .ok (.getfield 9, 3) := by decide +kernel
theorem dX12_nights_26 : decode cX12_nights 26 = .ok (.invokevirtual 249, 3) := by decide +kernel
theorem dX12_nights_29 : decode cX12_nights 29 = .ok (.aload_n 0, 1) := by decide +kernel
theorem dX12_nights_30 : decode cX12_nights 30 = .ok (.aload_n 0, 1) := by decide +kernel
theorem dX12_nights_31 : decode cX12_nights 31 = .ok (.getfield 9, 3) := by decide +kernel
theorem dX12_nights_34 : decode cX12_nights 34 = .ok (.iconst 2, 1) := by decide +kernel
theorem dX12_nights_35 : decode cX12_nights 35 = .ok (.invokevirtual 271, 3) := by decide +kernel
theorem dX12_nights_38 : decode cX12_nights 38 = .ok (.istore_n 2, 1) := by decide +kernel
theorem dX12_nights_39 : decode cX12_nights 39 = .ok (.aload_n 0, 1) := by decide +kernel
theorem dX12_nights_40 : decode cX12_nights 40 = .ok (.aload_n 0, 1) := by decide +kernel
theorem dX12_nights_41 : decode cX12_nights 41 = .ok (.getfield 9, 3) := by decide +kernel
theorem dX12_nights_44 : decode cX12_nights 44 = .ok (.iconst 5, 1) := by decide +kernel
theorem dX12_nights_45 : decode cX12_nights 45 = .ok (.invokevirtual 271, 3) := by decide +kernel
theorem dX12_nights_48 : decode cX12_nights 48 = .ok (.istore_n 3, 1) := by decide +kernel
theorem dX12_nights_49 : decode cX12_nights 49 = .ok (.iconst 0, 1) := by decide +kernel
theorem dX12_nights_50 : decode cX12_nights 50 = .ok (.istore 4, 2) := by decide +kernel
theorem dX12_nights_52 : decode cX12_nights 52 = .ok (.iload 4, 2) := by decide +kernel
theorem dX12_nights_54 : decode cX12_nights 54 = .ok (.iload_n 1, 1) := by decide +kernel
theorem dX12_nights_55 : decode cX12_nights 55 = .ok (.if_icmp .ge 17, 3) := by decide +kernel
theorem dX12_nights_58 : decode cX12_nights 58 = .ok (.aload_n 0, 1) := by decide +kernel
theorem dX12_nights_59 : decode cX12_nights 59 = .ok (.aload_n 0, 1) := by decide +kernel
theorem dX12_nights_60 : decode cX12_nights 60 = .ok (.getfield 9, 3) := by decide +kernel
theorem dX12_nights_63 : decode cX12_nights 63 = .ok (.invokevirtual 274, 3) := by decide +kernel
theorem dX12_nights_66 : decode cX12_nights 66 = .ok (.iinc 4 1, 3) := by decide +kernel
theorem dX12_nights_69 : decode cX12_nights 69 = .ok (.goto (-17), 3) := by decide +kernel
theorem dX12_nights_72 : decode cX12_nights 72 = .ok (.aload_n 0, 1) := by decide +kernel
theorem dX12_nights_73 : decode cX12_nights 73 = .ok (.iconst 0, 1) := by decide +kernel
theorem dX12_nights_74 : decode cX12_nights 74 = .ok (.putfield 98, 3) := by decide +kernel
theorem dX12_nights_77 : decode cX12_nights 77 = .ok (.aload_n 0, 1) := by decide +kernel
theorem dX12_nights_78 : decode cX12_nights 78 = .ok (.aload_n 0, 1) := by decide +kernel
