theorem dX9_add_0 : decode cX9_add 0 = .ok (.aload_n 0, 1) := by decide +kernel
theorem dX9_add_1 : decode cX9_add 1 = .ok (.getfield 15, 3) := by decide +kernel
theorem dX9_add_4 : decode cX9_add 4 = .ok (.iconst 4, 1) := by decide +kernel
theorem dX9_add_5 : decode cX9_add 5 = .ok (.iadd, 1) := by decide +kernel
theorem dX9_add_6 : decode cX9_add 6 = .ok (.bipush 80, 2) := by decide +kernel
theorem dX9_add_8 : decode cX9_add 8 = .ok (.if_icmp .le 5, 3) := by decide +kernel
theorem dX9_add_11 : decode cX9_add 11 = .ok (.iconst (-1), 1) := by decide +kernel
theorem dX9_add_12 : decode cX9_add 12 = .ok (.ireturn, 1) := by decide +kernel
theorem dX9_add_13 : decode cX9_add 13 = .ok (.bipush 24, 2) := by decide +kernel
theorem dX9_add_15 : decode cX9_add 15 = .ok (.istore_n 2, 1) := by decide +kernel
theorem dX9_add_16 : decode cX9_add 16 = .ok (.iload_n 2, 1) := by decide +kernel
theorem dX9_add_17 : decode cX9_add 17 = .ok (.ifCond .lt 36, 3) := by decide +kernel
theorem dX9_add_20 : decode cX9_add 20 = .ok (.aload_n 0, 1) := by decide +kernel
theorem dX9_add_21 : decode cX9_add 21 = .ok (.getfield 11, 3) := by decide +kernel
theorem dX9_add_24 : decode cX9_add 24 = .ok (.aload_n 0, 1) := by decide +kernel
theorem dX9_add_25 : decode cX9_add 25 = .ok (.getfield 15, 3) := by decide +kernel
theorem dX9_add_28 : decode cX9_add 28 = .ok (.iload_n 1, 1) := by decide +kernel
theorem dX9_add_29 : decode cX9_add 29 = .ok (.iload_n 2, 1) := by decide +kernel
theorem dX9_add_30 : decode cX9_add 30 = .ok (.iushr, 1) := by decide +kernel
theorem dX9_add_31 : decode cX9_add 31 = .ok (.sipush 255, 3) := by decide +kernel
theorem dX9_add_34 : decode cX9_add 34 = .ok (.iand, 1) := by decide +kernel
theorem dX9_add_35 : decode cX9_add 35 = .ok (.i2c, 1) := by decide +kernel
theorem dX9_add_36 : decode cX9_add 36 = .ok (.castore, 1) := by decide +kernel
theorem dX9_add_37 : decode cX9_add 37 = .ok (.aload_n 0, 1) := by decide +kernel
theorem dX9_add_38 : decode cX9_add 38 = .ok (.dup, 1) := by decide +kernel
theorem dX9_add_39 : decode cX9_add 39 = .ok (.getfield 15, 3) := by decide +kernel
theorem dX9_add_42 : decode cX9_add 42 = .ok (.iconst 1, 1) := by decide +kernel
theorem dX9_add_43 : decode cX9_add 43 = .ok (.iadd, 1) := by decide +kernel
theorem dX9_add_44 : decode cX9_add 44 = .ok (.putfield 15, 3) := by decide +kernel
theorem dX9_add_47 : decode cX9_add 47 = .ok (.iinc 2 (-8), 3) := by decide +kernel
theorem dX9_add_50 : decode cX9_add 50 = .ok (.goto (-34), 3) := by decide +kernel
theorem dX9_add_53 : decode cX9_add 53 = .ok (.aload_n 0, 1) := by decide +kernel
theorem dX9_add_54 : decode cX9_add 54 = .ok (.getfield 15, 3) := by decide +kernel
theorem dX9_add_57 : decode cX9_add 57 = .ok (.ireturn, 1) := by decide +kernel
theorem dX11_sign_0 : decode cX11_sign 0 = .ok (.aload_n 0, 1) := by decide +kernel
theorem dX11_sign_1 : decode cX11_sign 1 = .ok (.getfield 10, 3) := by decide +kernel
theorem dX11_sign_4 : decode cX11_sign 4 = .ok (.iload_n 1, 1) := by decide +kernel
theorem dX11_sign_5 : decode cX11_sign 5 = .ok (.invokevirtual 104, 3) := by decide +kernel
theorem dX11_sign_8 : decode cX11_sign 8 = .ok (.ireturn, 1) := by decide +kernel
theorem dX12_sign_0 : decode cX12_sign 0 = .ok (.aload_n 0, 1) := by decide +kernel
theorem dX12_sign_1 : decode cX12_sign 1 = .ok (.iconst 0, 1) := by decide +kernel
theorem dX12_sign_2 : decode cX12_sign 2 = .ok (.putfield 95, 3) := by decide +kernel
theorem dX12_sign_5 : decode cX12_sign 5 = .ok (.aload_n 0, 1) := by decide +kernel
theorem dX12_sign_6 : decode cX12_sign 6 = .ok (.getfield 108, 3) := by decide +kernel
theorem dX12_sign_9 : decode cX12_sign 9 = .ok (.iconst 4, 1) := by decide +kernel
theorem dX12_sign_10 : decode cX12_sign 10 = .ok (.iadd, 1) := by decide +kernel
theorem dX12_sign_11 : decode cX12_sign 11 = .ok (.bipush 80, 2) := by decide +kernel
theorem dX12_sign_13 : decode cX12_sign 13 = .ok (.if_icmp .le 5, 3) := by decide +kernel
theorem dX12_sign_16 : decode cX12_sign 16 = .ok (.iconst (-1), 1) := by decide +kernel
theorem dX12_sign_17 : decode cX12_sign 17 = .ok (.ireturn, 1) := by decide +kernel
theorem dX12_sign_18 : decode cX12_sign 18 = .ok (.iconst 3, 1) := by decide +kernel
theorem dX12_sign_19 : decode cX12_sign 19 = .ok (.istore_n 2, 1) := by decide +kernel
theorem dX12_sign_20 : decode cX12_sign 20 = .ok (.iload_n 2, 1) := by decide +kernel
theorem dX12_sign_21 : decode cX12_sign 21 = .ok (.ifCond .lt 32, 3) := by decide +kernel
theorem dX12_sign_24 : decode cX12_sign 24 = .ok (.aload_n 0, 1) := by decide +kernel
theorem dX12_sign_25 : decode cX12_sign 25 = .ok (.getfield 45, 3) := by decide +kernel
theorem dX12_sign_28 : decode cX12_sign 28 = .ok (.aload_n 0, 1) := by decide +kernel
theorem dX12_sign_29 : decode cX12_sign 29 = .ok (.dup, 1) := by decide +kernel
theorem dX12_sign_30 : decode cX12_sign 30 = .ok (.getfield 108, 3) := by decide +kernel
theorem dX12_sign_33 : decode cX12_sign 33 = .ok (.dup_x1, 1) := by decide +kernel
theorem dX12_sign_34 : decode cX12_sign 34 = .ok (.iconst 1, 1) := by decide +kernel
theorem dX12_sign_35 : decode cX12_sign 35 = .ok (.iadd, 1) := by decide +kernel
theorem dX12_sign_36 : decode cX12_sign 36 = .ok (.putfield 108, 3) := by decide +kernel
theorem dX12_sign_39 : decode cX12_sign 39 = .ok (.iload_n 1, 1) := by decide +kernel
theorem dX12_sign_40 : decode cX12_sign 40 = .ok (.bipush 8, 2) := by decide +kernel
theorem dX12_sign_42 : decode cX12_sign 42 = .ok (.iload_n 2, 1) := by decide +kernel
theorem dX12_sign_43 : decode cX12_sign 43 = .ok (.imul, 1) := by decide +kernel
theorem dX12_sign_44 : decode cX12_sign 44 = .ok (.ishr, 1) := by decide +kernel
theorem dX12_sign_45 : decode cX12_sign 45 = .ok (.i2b, 1) := by decide +kernel
theorem dX12_sign_46 : decode cX12_sign 46 = .ok (.bastore, 1) := by decide +kernel
theorem dX12_sign_47 : decode cX12_sign 47 = .ok (.iinc 2 (-1), 3) := by decide +kernel
theorem dX12_sign_50 : decode cX12_sign 50 = .ok (.goto (-30), 3) := by decide +kernel
theorem dX12_sign_53 : decode cX12_sign 53 = .ok (.aload_n 0, 1) := by decide +kernel
theorem dX12_sign_54 : decode cX12_sign 54 = .ok (.getfield 108, 3) := by decide +kernel
theorem dX12_sign_57 : decode cX12_sign 57 = .ok (.ireturn, 1) := by decide +kernel
theorem dX9_cut_0 : decode cX9_cut 0 = .ok (.iload_n 1, 1) := by decide +kernel
theorem dX9_cut_1 : decode cX9_cut 1 = .ok (.ifCond .lt 11, 3) := by decide +kernel
theorem dX9_cut_4 : decode cX9_cut 4 = .ok (.iload_n 1, 1) := by decide +kernel
theorem dX9_cut_5 : decode cX9_cut 5 = .ok (.aload_n 0, 1) := by decide +kernel
theorem dX9_cut_6 : decode cX9_cut 6 = .ok (.getfield 15, 3) := by decide +kernel
theorem dX9_cut_9 : decode cX9_cut 9 = .ok (.if_icmp .le 5, 3) := by decide +kernel
theorem dX9_cut_12 : decode cX9_cut 12 = .ok (.iconst 0, 1) := by decide +kernel
theorem dX9_cut_13 : decode cX9_cut 13 = .ok (.ireturn, 1) := by decide +kernel
theorem dX9_cut_14 : decode cX9_cut 14 = .ok (.aload_n 0, 1) := by decide +kernel
theorem dX9_cut_15 : decode cX9_cut 15 = .ok (.iload_n 1, 1) := by decide +kernel
theorem dX9_cut_16 : decode cX9_cut 16 = .ok (.putfield 15, 3) := by decide +kernel
theorem dX9_cut_19 : decode cX9_cut 19 = .ok (.iconst 1, 1) := by decide +kernel
theorem dX9_cut_20 : decode cX9_cut 20 = .ok (.ireturn, 1) := by decide +kernel
theorem dX11_end_0 : decode cX11_end 0 = .ok (.aload_n 0, 1) := by decide +kernel
theorem dX11_end_1 : decode cX11_end 1 = .ok (.getfield 10, 3) := by decide +kernel
theorem dX11_end_4 : decode cX11_end 4 = .ok (.iload_n 1, 1) := by decide +kernel
theorem dX11_end_5 : decode cX11_end 5 = .ok (.invokevirtual 108, 3) := by decide +kernel
theorem dX11_end_8 : decode cX11_end 8 = .ok (.ireturn, 1) := by decide +kernel
theorem dX12_in_0 : decode cX12_in 0 = .ok (.iload_n 0, 1) := by decide +kernel
theorem dX12_in_1 : decode cX12_in 1 = .ok (.iload_n 1, 1) := by decide +kernel
theorem dX12_in_2 : decode cX12_in 2 = .ok (.if_icmp .lt 12, 3) := by decide +kernel
theorem dX12_in_5 : decode cX12_in 5 = .ok (.iload_n 0, 1) := by decide +kernel
theorem dX12_in_6 : decode cX12_in 6 = .ok (.iload_n 2, 1) := by decide +kernel
theorem dX12_in_7 : decode cX12_in 7 = .ok (.if_icmp .gt 7, 3) := by decide +kernel
theorem dX12_in_10 : decode cX12_in 10 = .ok (.iconst 1, 1) := by decide +kernel
theorem dX12_in_11 : decode cX12_in 11 = .ok (.goto 4, 3) := by decide +kernel
theorem dX12_in_14 : decode cX12_in 14 = .ok (.iconst 0, 1) := by decide +kernel
theorem dX12_in_15 : decode cX12_in 15 = .ok (.ireturn, 1) := by decide +kernel
theorem dX12_end_0 : decode cX12_end 0 = .ok (.aload_n 0, 1) := by decide +kernel
theorem dX12_end_1 : decode cX12_end 1 = .ok (.iconst 0, 1) := by decide +kernel
theorem dX12_end_2 : decode cX12_end 2 = .ok (.putfield 95, 3) := by decide +kernel
theorem dX12_end_5 : decode cX12_end 5 = .ok (.iload_n 1, 1) := by decide +kernel
theorem dX12_end_6 : decode cX12_end 6 = .ok (.iconst 0, 1) := by decide +kernel
theorem dX12_end_7 : decode cX12_end 7 = .ok (.aload_n 0, 1) := by decide +kernel
theorem dX12_end_8 : decode cX12_end 8 = .ok (.getfield 108, 3) := by decide +kernel
theorem dX12_end_11 : decode cX12_end 11 = .ok (.invokestatic 104, 3) := by decide +kernel
theorem dX12_end_14 : decode cX12_end 14 = .ok (.ifCond .ne 5, 3) := by decide +kernel
theorem dX12_end_17 : decode cX12_end 17 = .ok (.iconst 0, 1) := by decide +kernel
theorem dX12_end_18 : decode cX12_end 18 = .ok (.ireturn, 1) := by decide +kernel
theorem dX12_end_19 : decode cX12_end 19 = .ok (.aload_n 0, 1) := by decide +kernel
theorem dX12_end_20 : decode cX12_end 20 = .ok (.iload_n 1, 1) := by decide +kernel
theorem dX12_end_21 : decode cX12_end 21 = .ok (.putfield 108, 3) := by decide +kernel
theorem dX12_end_24 : decode cX12_end 24 = .ok (.iconst 1, 1) := by decide +kernel
theorem dX12_end_25 : decode cX12_end 25 = .ok (.ireturn, 1) := by decide +kernel
theorem dX6_forget_0 : decode cX6_forget 0 = .ok (.aload_n 0, 1) := by decide +kernel
theorem dX6_forget_1 : decode cX6_forget 1 = .ok (.iconst 0, 1) := by decide +kernel
theorem dX6_forget_2 : decode cX6_forget 2 = .ok (.putfield 19, 3) := by decide +kernel
theorem dX6_forget_5 : decode cX6_forget 5 = .ok (.return_, 1) := by decide +kernel
theorem dX11_forgetWhatWas_0 : decode cX11_forgetWhatWas 0 = .ok (.aload_n 0, 1) := by decide +kernel
theorem dX11_forgetWhatWas_1 : decode cX11_forgetWhatWas 1 = .ok (.getfield 75, 3) := by decide +kernel
theorem dX11_forgetWhatWas_4 : decode cX11_forgetWhatWas 4 = .ok (.invokevirtual 402, 3) := by decide +kernel
theorem dX11_forgetWhatWas_7 : decode cX11_forgetWhatWas 7 = .ok (.iconst 0, 1) := by decide +kernel
theorem dX11_forgetWhatWas_8 : decode cX11_forgetWhatWas 8 = .ok (.istore_n 1, 1) := by decide +kernel
theorem dX11_forgetWhatWas_9 : decode cX11_forgetWhatWas 9 = .ok (.iload_n 1, 1) := by decide +kernel
theorem dX11_forgetWhatWas_10 : decode cX11_forgetWhatWas 10 = .ok (.iconst 2, 1) := by decide +kernel
theorem dX11_forgetWhatWas_11 : decode cX11_forgetWhatWas 11 = .ok (.if_icmp .ge 16, 3) := by decide +kernel
theorem dX11_forgetWhatWas_14 : decode cX11_forgetWhatWas 14 = .ok (.aload_n 0, 1) := by decide +kernel
theorem dX11_forgetWhatWas_15 : decode cX11_forgetWhatWas 15 = .ok (.getfield 92, 3) := by decide +kernel
theorem dX11_forgetWhatWas_18 : decode cX11_forgetWhatWas 18 = .ok (.iload_n 1, 1) := by decide +kernel
theorem dX11_forgetWhatWas_19 : decode cX11_forgetWhatWas 19 = .ok (.iconst 0, 1) := by decide +kernel
theorem dX11_forgetWhatWas_20 : decode cX11_forgetWhatWas 20 = .ok (.bastore, 1) := by decide +kernel
theorem dX11_forgetWhatWas_21 : decode cX11_forgetWhatWas 21 = .ok (.iinc 1 1, 3) := by decide +kernel
theorem dX11_forgetWhatWas_24 : decode cX11_forgetWhatWas 24 = .ok (.goto (-15), 3) := by decide +kernel
theorem dX11_forgetWhatWas_27 : decode cX11_forgetWhatWas 27 = .ok (.return_, 1) := by decide +kernel
theorem dX4_receive_0 : decode cX4_receive 0 = .ok (.iload_n 1, 1) := by decide +kernel
theorem dX4_receive_1 : decode cX4_receive 1 = .ok (.istore_n 3, 1) := by decide +kernel
theorem dX4_receive_2 : decode cX4_receive 2 = .ok (.iload_n 3, 1) := by decide +kernel
theorem dX4_receive_3 : decode cX4_receive 3 = .ok (.iload_n 2, 1) := by decide +kernel
theorem dX4_receive_4 : decode cX4_receive 4 = .ok (.if_icmp .ge 36, 3) := by decide +kernel
theorem dX4_receive_7 : decode cX4_receive 7 = .ok (.iload_n 3, 1) := by decide +kernel
theorem dX4_receive_8 : decode cX4_receive 8 = .ok (.bipush 6, 2) := by decide +kernel
theorem dX4_receive_10 : decode cX4_receive 10 = .ok (.if_icmp .ge 30, 3) := by decide +kernel
theorem dX4_receive_13 : decode cX4_receive 13 = .ok (.aload_n 0, 1) := by decide +kernel
theorem dX4_receive_14 : decode cX4_receive 14 = .ok (.getfield 9, 3) := by decide +kernel
theorem dX4_receive_17 : decode cX4_receive 17 = .ok (.iload_n 3, 1) := by decide +kernel
theorem dX4_receive_18 : decode cX4_receive 18 = .ok (.iconst 0, 1) := by decide +kernel
theorem dX4_receive_19 : decode cX4_receive 19 = .ok (.iastore, 1) := by decide +kernel
theorem dX4_receive_20 : decode cX4_receive 20 = .ok (.aload_n 0, 1) := by decide +kernel
theorem dX4_receive_21 : decode cX4_receive 21 = .ok (.getfield 15, 3) := by decide +kernel
theorem dX4_receive_24 : decode cX4_receive 24 = .ok (.iload_n 3, 1) := by decide +kernel
theorem dX4_receive_25 : decode cX4_receive 25 = .ok (.iconst 0, 1) := by decide +kernel
theorem dX4_receive_26 : decode cX4_receive 26 = .ok (.iastore, 1) := by decide +kernel
theorem dX4_receive_27 : decode cX4_receive 27 = .ok (.aload_n 0, 1) := by decide +kernel
theorem dX4_receive_28 : decode cX4_receive 28 = .ok (.getfield 18, 3) := by decide +kernel
theorem dX4_receive_31 : decode cX4_receive 31 = .ok (.iload_n 3, 1) := by decide +kernel
theorem dX4_receive_32 : decode cX4_receive 32 = .ok (.iconst 0, 1) := by decide +kernel
theorem dX4_receive_33 : decode cX4_receive 33 = .ok (.iastore, 1) := by decide +kernel
theorem dX4_receive_34 : decode cX4_receive 34 = .ok (.iinc 3 1, 3) := by decide +kernel
theorem dX4_receive_37 : decode cX4_receive 37 = .ok (.goto (-35), 3) := by decide +kernel
theorem dX4_receive_40 : decode cX4_receive 40 = .ok (.return_, 1) := by decide +kernel
theorem dX3_allGoods_0 : decode cX3_allGoods 0 = .ok (.iconst 0, 1) := by decide +kernel
theorem dX3_allGoods_1 : decode cX3_allGoods 1 = .ok (.istore_n 1, 1) := by decide +kernel
theorem dX3_allGoods_2 : decode cX3_allGoods 2 = .ok (.iconst 0, 1) := by decide +kernel
theorem dX3_allGoods_3 : decode cX3_allGoods 3 = .ok (.istore_n 2, 1) := by decide +kernel
theorem dX3_allGoods_4 : decode cX3_allGoods 4 = .ok (.iload_n 2, 1) := by decide +kernel
theorem dX3_allGoods_5 : decode cX3_allGoods 5 = .ok (.aload_n 0, 1) := by decide +kernel
theorem dX3_allGoods_6 : decode cX3_allGoods 6 = .ok (.getfield 28, 3) := by decide +kernel
theorem dX3_allGoods_9 : decode cX3_allGoods 9 = .ok (.if_icmp .ge 18, 3) := by decide +kernel
theorem dX3_allGoods_12 : decode cX3_allGoods 12 = .ok (.iload_n 1, 1) := by decide +kernel
theorem dX3_allGoods_13 : decode cX3_allGoods 13 = .ok (.aload_n 0, 1) := by decide +kernel
theorem dX3_allGoods_14 : decode cX3_allGoods 14 = .ok (.getfield 25, 3) := by decide +kernel
theorem dX3_allGoods_17 : decode cX3_allGoods 17 = .ok (.iload_n 2, 1) := by decide +kernel
theorem dX3_allGoods_18 : decode cX3_allGoods 18 = .ok (.iaload, 1) := by decide +kernel
theorem dX3_allGoods_19 : decode cX3_allGoods 19 = .ok (.ior, 1) := by decide +kernel
theorem dX3_allGoods_20 : decode cX3_allGoods 20 = .ok (.istore_n 1, 1) := by decide +kernel
theorem dX3_allGoods_21 : decode cX3_allGoods 21 = .ok (.iinc 2 1, 3) := by decide +kernel
theorem dX3_allGoods_24 : decode cX3_allGoods 24 = .ok (.goto (-20), 3) := by decide +kernel
theorem dX3_allGoods_27 : decode cX3_allGoods 27 = .ok (.iload_n 1, 1) := by decide +kernel
theorem dX3_allGoods_28 : decode cX3_allGoods 28 = .ok (.ireturn, 1) := by decide +kernel
theorem dX9_back_0 : decode cX9_back 0 = .ok (.aload_n 0, 1) := by decide +kernel
theorem dX9_back_1 : decode cX9_back 1 = .ok (.iconst 0, 1) := by decide +kernel
theorem dX9_back_2 : decode cX9_back 2 = .ok (.aload_n 0, 1) := by decide +kernel
theorem dX9_back_3 : decode cX9_back 3 = .ok (.getfield 19, 3) := by decide +kernel
theorem dX9_back_6 : decode cX9_back 6 = .ok (.iconst 1, 1) := by decide +kernel
theorem dX9_back_7 : decode cX9_back 7 = .ok (.isub, 1) := by decide +kernel
theorem dX9_back_8 : decode cX9_back 8 = .ok (.invokestatic 31, 3) := by decide +kernel
theorem dX9_back_11 : decode cX9_back 11 = .ok (.putfield 19, 3) := by decide +kernel
theorem dX9_back_14 : decode cX9_back 14 = .ok (.return_, 1) := by decide +kernel
theorem dX9_digit_0 : decode cX9_digit 0 = .ok (.aload_n 0, 1) := by decide +kernel
theorem dX9_digit_1 : decode cX9_digit 1 = .ok (.getfield 19, 3) := by decide +kernel
theorem dX9_digit_4 : decode cX9_digit 4 = .ok (.aload_n 0, 1) := by decide +kernel
theorem dX9_digit_5 : decode cX9_digit 5 = .ok (.getfield 22, 3) := by decide +kernel
theorem dX9_digit_8 : decode cX9_digit 8 = .ok (.if_icmp .ge 33, 3) := by decide +kernel
theorem dX9_digit_11 : decode cX9_digit 11 = .ok (.aload_n 0, 1) := by decide +kernel
theorem dX9_digit_12 : decode cX9_digit 12 = .ok (.getfield 11, 3) := by decide +kernel
theorem dX9_digit_15 : decode cX9_digit 15 = .ok (.aload_n 0, 1) := by decide +kernel
theorem dX9_digit_16 : decode cX9_digit 16 = .ok (.getfield 19, 3) := by decide +kernel
theorem dX9_digit_19 : decode cX9_digit 19 = .ok (.caload, 1) := by decide +kernel
theorem dX9_digit_20 : decode cX9_digit 20 = .ok (.bipush 48, 2) := by decide +kernel
theorem dX9_digit_22 : decode cX9_digit 22 = .ok (.if_icmp .lt 19, 3) := by decide +kernel
theorem dX9_digit_25 : decode cX9_digit 25 = .ok (.aload_n 0, 1) := by decide +kernel
theorem dX9_digit_26 : decode cX9_digit 26 = .ok (.getfield 11, 3) := by decide +kernel
theorem dX9_digit_29 : decode cX9_digit 29 = .ok (.aload_n 0, 1) := by decide +kernel
theorem dX9_digit_30 : decode cX9_digit 30 = .ok (.getfield 19, 3) := by decide +kernel
theorem dX9_digit_33 : decode cX9_digit 33 = .ok (.caload, 1) := by decide +kernel
theorem dX9_digit_34 : decode cX9_digit 34 = .ok (.bipush 48, 2) := by decide +kernel
theorem dX9_digit_36 : decode cX9_digit 36 = .ok (.isub, 1) := by decide +kernel
theorem dX9_digit_37 : decode cX9_digit 37 = .ok (.iload_n 1, 1) := by decide +kernel
theorem dX9_digit_38 : decode cX9_digit 38 = .ok (.if_icmp .lt 5, 3) := by decide +kernel
theorem dX9_digit_41 : decode cX9_digit 41 = .ok (.iconst (-1), 1) := by decide +kernel
theorem dX9_digit_42 : decode cX9_digit 42 = .ok (.ireturn, 1) := by decide +kernel
theorem dX9_digit_43 : decode cX9_digit 43 = .ok (.aload_n 0, 1) := by decide +kernel
theorem dX9_digit_44 : decode cX9_digit 44 = .ok (.getfield 11, 3) := by decide +kernel
theorem dX9_digit_47 : decode cX9_digit 47 = .ok (.aload_n 0, 1) := by decide +kernel
theorem dX9_digit_48 : decode cX9_digit 48 = .ok (.getfield 19, 3) := by decide +kernel
theorem dX9_digit_51 : decode cX9_digit 51 = .ok (.caload, 1) := by decide +kernel
theorem dX9_digit_52 : decode cX9_digit 52 = .ok (.bipush 48, 2) := by decide +kernel
theorem dX9_digit_54 : decode cX9_digit 54 = .ok (.isub, 1) := by decide +kernel
theorem dX9_digit_55 : decode cX9_digit 55 = .ok (.istore_n 2, 1) := by decide +kernel
theorem dX9_digit_56 : decode cX9_digit 56 = .ok (.aload_n 0, 1) := by decide +kernel
theorem dX9_digit_57 : decode cX9_digit 57 = .ok (.dup, 1) := by decide +kernel
theorem dX9_digit_58 : decode cX9_digit 58 = .ok (.getfield 19, 3) := by decide +kernel
theorem dX9_digit_61 : decode cX9_digit 61 = .ok (.iconst 1, 1) := by decide +kernel
theorem dX9_digit_62 : decode cX9_digit 62 = .ok (.iadd, 1) := by decide +kernel
theorem dX9_digit_63 : decode cX9_digit 63 = .ok (.putfield 19, 3) := by decide +kernel
theorem dX9_digit_66 : decode cX9_digit 66 = .ok (.iload_n 2, 1) := by decide +kernel
theorem dX9_digit_67 : decode cX9_digit 67 = .ok (.ireturn, 1) := by decide +kernel
theorem dX9_number_0 : decode cX9_number 0 = .ok (.aload_n 0, 1) := by decide +kernel
theorem dX9_number_1 : decode cX9_number 1 = .ok (.bipush 10, 2) := by decide +kernel
theorem dX9_number_3 : decode cX9_number 3 = .ok (.invokevirtual 40, 3) := by decide +kernel
theorem dX9_number_6 : decode cX9_number 6 = .ok (.istore_n 2, 1) := by decide +kernel
theorem dX9_number_7 : decode cX9_number 7 = .ok (.iload_n 2, 1) := by decide +kernel
theorem dX9_number_8 : decode cX9_number 8 = .ok (.istore_n 3, 1) := by decide +kernel
theorem dX9_number_9 : decode cX9_number 9 = .ok (.iconst 1, 1) := by decide +kernel
theorem dX9_number_10 : decode cX9_number 10 = .ok (.istore 4, 2) := by decide +kernel
theorem dX9_number_12 : decode cX9_number 12 = .ok (.iload 4, 2) := by decide +kernel
theorem dX9_number_14 : decode cX9_number 14 = .ok (.iload_n 1, 1) := by decide +kernel
theorem dX9_number_15 : decode cX9_number 15 = .ok (.if_icmp .ge 35, 3) := by decide +kernel
theorem dX9_number_18 : decode cX9_number 18 = .ok (.iload_n 3, 1) := by decide +kernel
theorem dX9_number_19 : decode cX9_number 19 = .ok (.ifCond .lt 31, 3) := by decide +kernel
theorem dX9_number_22 : decode cX9_number 22 = .ok (.aload_n 0, 1) := by decide +kernel
theorem dX9_number_23 : decode cX9_number 23 = .ok (.bipush 10, 2) := by decide +kernel
theorem dX9_number_25 : decode cX9_number 25 = .ok (.invokevirtual 40, 3) := by decide +kernel
theorem dX9_number_28 : decode cX9_number 28 = .ok (.istore_n 3, 1) := by decide +kernel
theorem dX9_number_29 : decode cX9_number 29 = .ok (.iload_n 3, 1) := by decide +kernel
theorem dX9_number_30 : decode cX9_number 30 = .ok (.ifCond .ge 7, 3) := by decide +kernel
theorem dX9_number_33 : decode cX9_number 33 = .ok (.iload_n 2, 1) := by decide +kernel
theorem dX9_number_34 : decode cX9_number 34 = .ok (.goto 9, 3) := by decide +kernel
theorem dX9_number_37 : decode cX9_number 37 = .ok (.iload_n 2, 1) := by decide +kernel
theorem dX9_number_38 : decode cX9_number 38 = .ok (.bipush 10, 2) := by decide +kernel
theorem dX9_number_40 : decode cX9_number 40 = .ok (.imul, 1) := by decide +kernel
theorem dX9_number_41 : decode cX9_number 41 = .ok (.iload_n 3, 1) := by decide +kernel
theorem dX9_number_42 : decode cX9_number 42 = .ok (.iadd, 1) := by decide +kernel
theorem dX9_number_43 : decode cX9_number 43 = .ok (.istore_n 2, 1) := by decide +kernel
theorem dX9_number_44 : decode cX9_number 44 = .ok (.iinc 4 1, 3) := by decide +kernel
theorem dX9_number_47 : decode cX9_number 47 = .ok (.goto (-35), 3) := by decide +kernel
theorem dX9_number_50 : decode cX9_number 50 = .ok (.iload_n 2, 1) := by decide +kernel
theorem dX9_number_51 : decode cX9_number 51 = .ok (.ireturn, 1) := by decide +kernel
theorem dX9_takes_0 : decode cX9_takes 0 = .ok (.aload_n 0, 1) := by decide +kernel
theorem dX9_takes_1 : decode cX9_takes 1 = .ok (.getfield 19, 3) := by decide +kernel
theorem dX9_takes_4 : decode cX9_takes 4 = .ok (.aload_n 0, 1) := by decide +kernel
theorem dX9_takes_5 : decode cX9_takes 5 = .ok (.getfield 22, 3) := by decide +kernel
theorem dX9_takes_8 : decode cX9_takes 8 = .ok (.if_icmp .ge 16, 3) := by decide +kernel
theorem dX9_takes_11 : decode cX9_takes 11 = .ok (.aload_n 0, 1) := by decide +kernel
theorem dX9_takes_12 : decode cX9_takes 12 = .ok (.getfield 11, 3) := by decide +kernel
theorem dX9_takes_15 : decode cX9_takes 15 = .ok (.aload_n 0, 1) := by decide +kernel
theorem dX9_takes_16 : decode cX9_takes 16 = .ok (.getfield 19, 3) := by decide +kernel
theorem dX9_takes_19 : decode cX9_takes 19 = .ok (.caload, 1) := by decide +kernel
theorem dX9_takes_20 : decode cX9_takes 20 = .ok (.iload_n 1, 1) := by decide +kernel
theorem dX9_takes_21 : decode cX9_takes 21 = .ok (.if_icmp .eq 5, 3) := by decide +kernel
theorem dX9_takes_24 : decode cX9_takes 24 = .ok (.iconst 0, 1) := by decide +kernel
theorem dX9_takes_25 : decode cX9_takes 25 = .ok (.ireturn, 1) := by decide +kernel
theorem dX9_takes_26 : decode cX9_takes 26 = .ok (.aload_n 0, 1) := by decide +kernel
theorem dX9_takes_27 : decode cX9_takes 27 = .ok (.dup, 1) := by decide +kernel
theorem dX9_takes_28 : decode cX9_takes 28 = .ok (.getfield 19, 3) := by decide +kernel
theorem dX9_takes_31 : decode cX9_takes 31 = .ok (.iconst 1, 1) := by decide +kernel
theorem dX9_takes_32 : decode cX9_takes 32 = .ok (.iadd, 1) := by decide +kernel
theorem dX9_takes_33 : decode cX9_takes 33 = .ok (.putfield 19, 3) := by decide +kernel
theorem dX9_takes_36 : decode cX9_takes 36 = .ok (.iconst 1, 1) := by decide +kernel
theorem dX9_takes_37 : decode cX9_takes 37 = .ok (.ireturn, 1) := by decide +kernel
theorem dX3_readsMan_0 : decode cX3_readsMan 0 = .ok (.aload_n 0, 1) := by decide +kernel
theorem dX3_readsMan_1 : decode cX3_readsMan 1 = .ok (.getfield 9, 3) := by decide +kernel
theorem dX3_readsMan_4 : decode cX3_readsMan 4 = .ok (.iload_n 2, 1) := by decide +kernel
theorem dX3_readsMan_5 : decode cX3_readsMan 5 = .ok (.aload_n 1, 1) := by decide +kernel
theorem dX3_readsMan_6 : decode cX3_readsMan 6 = .ok (.iconst 2, 1) := by decide +kernel
theorem dX3_readsMan_7 : decode cX3_readsMan 7 = .ok (.invokevirtual 46, 3) := by decide +kernel
theorem dX3_readsMan_10 : decode cX3_readsMan 10 = .ok (.iastore, 1) := by decide +kernel
theorem dX3_readsMan_11 : decode cX3_readsMan 11 = .ok (.aload_n 0, 1) := by decide +kernel
theorem dX3_readsMan_12 : decode cX3_readsMan 12 = .ok (.getfield 9, 3) := by decide +kernel
theorem dX3_readsMan_15 : decode cX3_readsMan 15 = .ok (.iload_n 2, 1) := by decide +kernel
theorem dX3_readsMan_16 : decode cX3_readsMan 16 = .ok (.iaload, 1) := by decide +kernel
theorem dX3_readsMan_17 : decode cX3_readsMan 17 = .ok (.ifCond .ne 7, 3) := by decide +kernel
theorem dX3_readsMan_20 : decode cX3_readsMan 20 = .ok (.aload_n 1, 1) := by decide +kernel
theorem dX3_readsMan_21 : decode cX3_readsMan 21 = .ok (.invokevirtual 52, 3) := by decide +kernel
theorem dX3_readsMan_24 : decode cX3_readsMan 24 = .ok (.aload_n 0, 1) := by decide +kernel
theorem dX3_readsMan_25 : decode cX3_readsMan 25 = .ok (.getfield 9, 3) := by decide +kernel
theorem dX3_readsMan_28 : decode cX3_readsMan 28 = .ok (.iload_n 2, 1) := by decide +kernel
theorem dX3_readsMan_29 : decode cX3_readsMan 29 = .ok (.iaload, 1) := by decide +kernel
theorem dX3_readsMan_30 : decode cX3_readsMan 30 = .ok (.ifCond .le 12, 3) := by decide +kernel
theorem dX3_readsMan_33 : decode cX3_readsMan 33 = .ok (.aload_n 1, 1) := by decide +kernel
theorem dX3_readsMan_34 : decode cX3_readsMan 34 = .ok (.bipush 44, 2) := by decide +kernel
theorem dX3_readsMan_36 : decode cX3_readsMan 36 = .ok (.invokevirtual 55, 3) := by decide +kernel
theorem dX3_readsMan_39 : decode cX3_readsMan 39 = .ok (.ifCond .ne 5, 3) := by decide +kernel
theorem dX3_readsMan_42 : decode cX3_readsMan 42 = .ok (.iconst 0, 1) := by decide +kernel
theorem dX3_readsMan_43 : decode cX3_readsMan 43 = .ok (.ireturn, 1) := by decide +kernel
theorem dX3_readsMan_44 : decode cX3_readsMan 44 = .ok (.aload_n 0, 1) := by decide +kernel
theorem dX3_readsMan_45 : decode cX3_readsMan 45 = .ok (.getfield 15, 3) := by decide +kernel
theorem dX3_readsMan_48 : decode cX3_readsMan 48 = .ok (.iload_n 2, 1) := by decide +kernel
theorem dX3_readsMan_49 : decode cX3_readsMan 49 = .ok (.aload_n 1, 1) := by decide +kernel
theorem dX3_readsMan_50 : decode cX3_readsMan 50 = .ok (.iconst 2, 1) := by decide +kernel
theorem dX3_readsMan_51 : decode cX3_readsMan 51 = .ok (.invokevirtual 46, 3) := by decide +kernel
theorem dX3_readsMan_54 : decode cX3_readsMan 54 = .ok (.iastore, 1) := by decide +kernel
theorem dX3_readsMan_55 : decode cX3_readsMan 55 = .ok (.aload_n 0, 1) := by decide +kernel
theorem dX3_readsMan_56 : decode cX3_readsMan 56 = .ok (.getfield 15, 3) := by decide +kernel
theorem dX3_readsMan_59 : decode cX3_readsMan 59 = .ok (.iload_n 2, 1) := by decide +kernel
theorem dX3_readsMan_60 : decode cX3_readsMan 60 = .ok (.iaload, 1) := by decide +kernel
theorem dX3_readsMan_61 : decode cX3_readsMan 61 = .ok (.ifCond .lt 7, 3) := by decide +kernel
theorem dX3_readsMan_64 : decode cX3_readsMan 64 = .ok (.iconst 1, 1) := by decide +kernel
theorem dX3_readsMan_65 : decode cX3_readsMan 65 = .ok (.goto 4, 3) := by decide +kernel
theorem dX3_readsMan_68 : decode cX3_readsMan 68 = .ok (.iconst 0, 1) := by decide +kernel
theorem dX3_readsMan_69 : decode cX3_readsMan 69 = .ok (.ireturn, 1) := by decide +kernel
theorem dX3_readGoods_0 : decode cX3_readGoods 0 = .ok (.iconst 0, 1) := by decide +kernel
theorem dX3_readGoods_1 : decode cX3_readGoods 1 = .ok (.istore_n 2, 1) := by decide +kernel
theorem dX3_readGoods_2 : decode cX3_readGoods 2 = .ok (.iconst 0, 1) := by decide +kernel
theorem dX3_readGoods_3 : decode cX3_readGoods 3 = .ok (.istore_n 3, 1) := by decide +kernel
theorem dX3_readGoods_4 : decode cX3_readGoods 4 = .ok (.iload_n 3, 1) := by decide +kernel
theorem dX3_readGoods_5 : decode cX3_readGoods 5 = .ok (.bipush 8, 2) := by decide +kernel
theorem dX3_readGoods_7 : decode cX3_readGoods 7 = .ok (.if_icmp .ge 38, 3) := by decide +kernel
theorem dX3_readGoods_10 : decode cX3_readGoods 10 = .ok (.aload_n 0, 1) := by decide +kernel
theorem dX3_readGoods_11 : decode cX3_readGoods 11 = .ok (.getfield 32, 3) := by decide +kernel
theorem dX3_readGoods_14 : decode cX3_readGoods 14 = .ok (.iload_n 3, 1) := by decide +kernel
theorem dX3_readGoods_15 : decode cX3_readGoods 15 = .ok (.ishr, 1) := by decide +kernel
theorem dX3_readGoods_16 : decode cX3_readGoods 16 = .ok (.iconst 1, 1) := by decide +kernel
theorem dX3_readGoods_17 : decode cX3_readGoods 17 = .ok (.iand, 1) := by decide +kernel
theorem dX3_readGoods_18 : decode cX3_readGoods 18 = .ok (.ifCond .ne 21, 3) := by decide +kernel
theorem dX3_readGoods_21 : decode cX3_readGoods 21 = .ok (.aload_n 1, 1) := by decide +kernel
theorem dX3_readGoods_22 : decode cX3_readGoods 22 = .ok (.bipush 97, 2) := by decide +kernel
theorem dX3_readGoods_24 : decode cX3_readGoods 24 = .ok (.iload_n 3, 1) := by decide +kernel
theorem dX3_readGoods_25 : decode cX3_readGoods 25 = .ok (.iadd, 1) := by decide +kernel
theorem dX3_readGoods_26 : decode cX3_readGoods 26 = .ok (.i2c, 1) := by decide +kernel
theorem dX3_readGoods_27 : decode cX3_readGoods 27 = .ok (.invokevirtual 55, 3) := by decide +kernel
theorem dX3_readGoods_30 : decode cX3_readGoods 30 = .ok (.ifCond .eq 9, 3) := by decide +kernel
theorem dX3_readGoods_33 : decode cX3_readGoods 33 = .ok (.iload_n 2, 1) := by decide +kernel
theorem dX3_readGoods_34 : decode cX3_readGoods 34 = .ok (.iconst 1, 1) := by decide +kernel
theorem dX3_readGoods_35 : decode cX3_readGoods 35 = .ok (.iload_n 3, 1) := by decide +kernel
theorem dX3_readGoods_36 : decode cX3_readGoods 36 = .ok (.ishl, 1) := by decide +kernel
theorem dX3_readGoods_37 : decode cX3_readGoods 37 = .ok (.ior, 1) := by decide +kernel
theorem dX3_readGoods_38 : decode cX3_readGoods 38 = .ok (.istore_n 2, 1) := by decide +kernel
theorem dX3_readGoods_39 : decode cX3_readGoods 39 = .ok (.iinc 3 1, 3) := by decide +kernel
theorem dX3_readGoods_42 : decode cX3_readGoods 42 = .ok (.goto (-38), 3) := by decide +kernel
theorem dX3_readGoods_45 : decode cX3_readGoods 45 = .ok (.iload_n 2, 1) := by decide +kernel
theorem dX3_readGoods_46 : decode cX3_readGoods 46 = .ok (.ireturn, 1) := by decide +kernel
theorem dJ0_isLatin1_aae02_0 : decode cJ0_isLatin1_aae02 0 = .ok (.getstatic 38, 3) := by decide +kernel
theorem dJ0_isLatin1_aae02_3 : decode cJ0_isLatin1_aae02 3 = .ok (.ifCond .eq 14, 3) := by decide +kernel
theorem dJ0_isLatin1_aae02_6 : decode cJ0_isLatin1_aae02 6 = .ok (.aload_n 0, 1) := by decide +kernel
theorem dJ0_isLatin1_aae02_7 : decode cJ0_isLatin1_aae02 7 = .ok (.getfield 15, 3) := by decide +kernel
theorem dJ0_isLatin1_aae02_10 : decode cJ0_isLatin1_aae02 10 = .ok (.ifCond .ne 7, 3) := by decide +kernel
theorem dJ0_isLatin1_aae02_13 : decode cJ0_isLatin1_aae02 13 = .ok (.iconst 1, 1) := by decide +kernel
theorem dJ0_isLatin1_aae02_14 : decode cJ0_isLatin1_aae02 14 = .ok (.goto 4, 3) := by decide +kernel
theorem dJ0_isLatin1_aae02_17 : decode cJ0_isLatin1_aae02 17 = .ok (.iconst 0, 1) := by decide +kernel
theorem dJ0_isLatin1_aae02_18 : decode cJ0_isLatin1_aae02 18 = .ok (.ireturn, 1) := by decide +kernel
theorem dJ0_coder_7d493_0 : decode cJ0_coder_7d493 0 = .ok (.getstatic 38, 3) := by decide +kernel
theorem dJ0_coder_7d493_3 : decode cJ0_coder_7d493 3 = .ok (.ifCond .eq 10, 3) := by decide +kernel
theorem dJ0_coder_7d493_6 : decode cJ0_coder_7d493 6 = .ok (.aload_n 0, 1) := by decide +kernel
theorem dJ0_coder_7d493_7 : decode cJ0_coder_7d493 7 = .ok (.getfield 15, 3) := by decide +kernel
theorem dJ0_coder_7d493_10 : decode cJ0_coder_7d493 10 = .ok (.goto 4, 3) := by decide +kernel
theorem dJ0_coder_7d493_13 : decode cJ0_coder_7d493 13 = .ok (.iconst 1, 1) := by decide +kernel
theorem dJ0_coder_7d493_14 : decode cJ0_coder_7d493 14 = .ok (.ireturn, 1) := by decide +kernel
theorem dJ0_length_8abf5_0 : decode cJ0_length_8abf5 0 = .ok (.aload_n 0, 1) := by decide +kernel
theorem dJ0_length_8abf5_1 : decode cJ0_length_8abf5 1 = .ok (.getfield 9, 3) := by decide +kernel
theorem dJ0_length_8abf5_4 : decode cJ0_length_8abf5 4 = .ok (.arraylength, 1) := by decide +kernel
theorem dJ0_length_8abf5_5 : decode cJ0_length_8abf5 5 = .ok (.aload_n 0, 1) := by decide +kernel
theorem dJ0_length_8abf5_6 : decode cJ0_length_8abf5 6 = .ok (.invokevirtual 335, 3) := by decide +kernel
theorem dJ0_length_8abf5_9 : decode cJ0_length_8abf5 9 = .ok (.ishr, 1) := by decide +kernel
theorem dJ0_length_8abf5_10 : decode cJ0_length_8abf5 10 = .ok (.ireturn, 1) := by decide +kernel
theorem dJ1_canEncode_9a6ad_0 : decode cJ1_canEncode_9a6ad 0 = .ok (.iload_n 0, 1) := by decide +kernel
theorem dJ1_canEncode_9a6ad_1 : decode cJ1_canEncode_9a6ad 1 = .ok (.ifCond .lt 14, 3) := by decide +kernel
theorem dJ1_canEncode_9a6ad_4 : decode cJ1_canEncode_9a6ad 4 = .ok (.iload_n 0, 1) := by decide +kernel
theorem dJ1_canEncode_9a6ad_5 : decode cJ1_canEncode_9a6ad 5 = .ok (.sipush 255, 3) := by decide +kernel
theorem dJ1_canEncode_9a6ad_8 : decode cJ1_canEncode_9a6ad 8 = .ok (.if_icmp .gt 7, 3) := by decide +kernel
theorem dJ1_canEncode_9a6ad_11 : decode cJ1_canEncode_9a6ad 11 = .ok (.iconst 1, 1) := by decide +kernel
theorem dJ1_canEncode_9a6ad_12 : decode cJ1_canEncode_9a6ad 12 = .ok (.goto 4, 3) := by decide +kernel
theorem dJ1_canEncode_9a6ad_15 : decode cJ1_canEncode_9a6ad 15 = .ok (.iconst 0, 1) := by decide +kernel
theorem dJ1_canEncode_9a6ad_16 : decode cJ1_canEncode_9a6ad 16 = .ok (.ireturn, 1) := by decide +kernel
theorem dJ1_indexOfChar_4cfef_0 : decode cJ1_indexOfChar_4cfef 0 = .ok (.iload_n 1, 1) := by decide +kernel
theorem dJ1_indexOfChar_4cfef_1 : decode cJ1_indexOfChar_4cfef 1 = .ok (.i2b, 1) := by decide +kernel
theorem dJ1_indexOfChar_4cfef_2 : decode cJ1_indexOfChar_4cfef 2 = .ok (.istore 4, 2) := by decide +kernel
theorem dJ1_indexOfChar_4cfef_4 : decode cJ1_indexOfChar_4cfef 4 = .ok (.iload_n 2, 1) := by decide +kernel
theorem dJ1_indexOfChar_4cfef_5 : decode cJ1_indexOfChar_4cfef 5 = .ok (.istore 5, 2) := by decide +kernel
theorem dJ1_indexOfChar_4cfef_7 : decode cJ1_indexOfChar_4cfef 7 = .ok (.iload 5, 2) := by decide +kernel
theorem dJ1_indexOfChar_4cfef_9 : decode cJ1_indexOfChar_4cfef 9 = .ok (.iload_n 3, 1) := by decide +kernel
theorem dJ1_indexOfChar_4cfef_10 : decode cJ1_indexOfChar_4cfef 10 = .ok (.if_icmp .ge 21, 3) := by decide +kernel
theorem dJ1_indexOfChar_4cfef_13 : decode cJ1_indexOfChar_4cfef 13 = .ok (.aload_n 0, 1) := by decide +kernel
theorem dJ1_indexOfChar_4cfef_14 : decode cJ1_indexOfChar_4cfef 14 = .ok (.iload 5, 2) := by decide +kernel
theorem dJ1_indexOfChar_4cfef_16 : decode cJ1_indexOfChar_4cfef 16 = .ok (.baload, 1) := by decide +kernel
theorem dJ1_indexOfChar_4cfef_17 : decode cJ1_indexOfChar_4cfef 17 = .ok (.iload 4, 2) := by decide +kernel
theorem dJ1_indexOfChar_4cfef_19 : decode cJ1_indexOfChar_4cfef 19 = .ok (.if_icmp .ne 6, 3) := by decide +kernel
theorem dJ1_indexOfChar_4cfef_22 : decode cJ1_indexOfChar_4cfef 22 = .ok (.iload 5, 2) := by decide +kernel
theorem dJ1_indexOfChar_4cfef_24 : decode cJ1_indexOfChar_4cfef 24 = .ok (.ireturn, 1) := by decide +kernel
theorem dJ1_indexOfChar_4cfef_25 : decode cJ1_indexOfChar_4cfef 25 = .ok (.iinc 5 1, 3) := by decide +kernel
theorem dJ1_indexOfChar_4cfef_28 : decode cJ1_indexOfChar_4cfef 28 = .ok (.goto (-21), 3) := by decide +kernel
theorem dJ1_indexOfChar_4cfef_31 : decode cJ1_indexOfChar_4cfef 31 = .ok (.iconst (-1), 1) := by decide +kernel
theorem dJ1_indexOfChar_4cfef_32 : decode cJ1_indexOfChar_4cfef 32 = .ok (.ireturn, 1) := by decide +kernel
theorem dJ1_indexOf_4cfef_0 : decode cJ1_indexOf_4cfef 0 = .ok (.iload_n 1, 1) := by decide +kernel
theorem dJ1_indexOf_4cfef_1 : decode cJ1_indexOf_4cfef 1 = .ok (.invokestatic 88, 3) := by decide +kernel
theorem dJ1_indexOf_4cfef_4 : decode cJ1_indexOf_4cfef 4 = .ok (.ifCond .ne 5, 3) := by decide +kernel
theorem dJ1_indexOf_4cfef_7 : decode cJ1_indexOf_4cfef 7 = .ok (.iconst (-1), 1) := by decide +kernel
theorem dJ1_indexOf_4cfef_8 : decode cJ1_indexOf_4cfef 8 = .ok (.ireturn, 1) := by decide +kernel
theorem dJ1_indexOf_4cfef_9 : decode cJ1_indexOf_4cfef 9 = .ok (.iload_n 2, 1) := by decide +kernel
theorem dJ1_indexOf_4cfef_10 : decode cJ1_indexOf_4cfef 10 = .ok (.iconst 0, 1) := by decide +kernel
theorem dJ1_indexOf_4cfef_11 : decode cJ1_indexOf_4cfef 11 = .ok (.invokestatic 92, 3) := by decide +kernel
theorem dJ1_indexOf_4cfef_14 : decode cJ1_indexOf_4cfef 14 = .ok (.istore_n 2, 1) := by decide +kernel
theorem dJ1_indexOf_4cfef_15 : decode cJ1_indexOf_4cfef 15 = .ok (.iload_n 3, 1) := by decide +kernel
theorem dJ1_indexOf_4cfef_16 : decode cJ1_indexOf_4cfef 16 = .ok (.aload_n 0, 1) := by decide +kernel
theorem dJ1_indexOf_4cfef_17 : decode cJ1_indexOf_4cfef 17 = .ok (.arraylength, 1) := by decide +kernel
theorem dJ1_indexOf_4cfef_18 : decode cJ1_indexOf_4cfef 18 = .ok (.invokestatic 38, 3) := by decide +kernel
theorem dJ1_indexOf_4cfef_21 : decode cJ1_indexOf_4cfef 21 = .ok (.istore_n 3, 1) := by decide +kernel
theorem dJ1_indexOf_4cfef_22 : decode cJ1_indexOf_4cfef 22 = .ok (.iload_n 2, 1) := by decide +kernel
theorem dJ1_indexOf_4cfef_23 : decode cJ1_indexOf_4cfef 23 = .ok (.iload_n 3, 1) := by decide +kernel
theorem dJ1_indexOf_4cfef_24 : decode cJ1_indexOf_4cfef 24 = .ok (.if_icmp .lt 5, 3) := by decide +kernel
theorem dJ1_indexOf_4cfef_27 : decode cJ1_indexOf_4cfef 27 = .ok (.iconst (-1), 1) := by decide +kernel
theorem dJ1_indexOf_4cfef_28 : decode cJ1_indexOf_4cfef 28 = .ok (.ireturn, 1) := by decide +kernel
theorem dJ1_indexOf_4cfef_29 : decode cJ1_indexOf_4cfef 29 = .ok (.aload_n 0, 1) := by decide +kernel
theorem dJ1_indexOf_4cfef_30 : decode cJ1_indexOf_4cfef 30 = .ok (.iload_n 1, 1) := by decide +kernel
theorem dJ1_indexOf_4cfef_31 : decode cJ1_indexOf_4cfef 31 = .ok (.iload_n 2, 1) := by decide +kernel
theorem dJ1_indexOf_4cfef_32 : decode cJ1_indexOf_4cfef 32 = .ok (.iload_n 3, 1) := by decide +kernel
theorem dJ1_indexOf_4cfef_33 : decode cJ1_indexOf_4cfef 33 = .ok (.invokestatic 95, 3) := by decide +kernel
theorem dJ1_indexOf_4cfef_36 : decode cJ1_indexOf_4cfef 36 = .ok (.ireturn, 1) := by decide +kernel
theorem dJ0_indexOf_7cf53_0 : decode cJ0_indexOf_7cf53 0 = .ok (.aload_n 0, 1) := by decide +kernel
theorem dJ0_indexOf_7cf53_1 : decode cJ0_indexOf_7cf53 1 = .ok (.invokevirtual 492, 3) := by decide +kernel
theorem dJ0_indexOf_7cf53_4 : decode cJ0_indexOf_7cf53 4 = .ok (.ifCond .eq 19, 3) := by decide +kernel
theorem dJ0_indexOf_7cf53_7 : decode cJ0_indexOf_7cf53 7 = .ok (.aload_n 0, 1) := by decide +kernel
theorem dJ0_indexOf_7cf53_8 : decode cJ0_indexOf_7cf53 8 = .ok (.getfield 9, 3) := by decide +kernel
theorem dJ0_indexOf_7cf53_11 : decode cJ0_indexOf_7cf53 11 = .ok (.iload_n 1, 1) := by decide +kernel
theorem dJ0_indexOf_7cf53_12 : decode cJ0_indexOf_7cf53 12 = .ok (.iload_n 2, 1) := by decide +kernel
theorem dJ0_indexOf_7cf53_13 : decode cJ0_indexOf_7cf53 13 = .ok (.aload_n 0, 1) := by decide +kernel
theorem dJ0_indexOf_7cf53_14 : decode cJ0_indexOf_7cf53 14 = .ok (.invokevirtual 505, 3) := by decide +kernel
theorem dJ0_indexOf_7cf53_17 : decode cJ0_indexOf_7cf53 17 = .ok (.invokestatic 637, 3) := by decide +kernel
theorem dJ0_indexOf_7cf53_20 : decode cJ0_indexOf_7cf53 20 = .ok (.goto 16, 3) := by decide +kernel
theorem dJ0_indexOf_7cf53_23 : decode cJ0_indexOf_7cf53 23 = .ok (.aload_n 0, 1) := by decide +kernel
theorem dJ0_indexOf_7cf53_24 : decode cJ0_indexOf_7cf53 24 = .ok (.getfield 9, 3) := by decide +kernel
theorem dJ0_indexOf_7cf53_27 : decode cJ0_indexOf_7cf53 27 = .ok (.iload_n 1, 1) := by decide +kernel
theorem dJ0_indexOf_7cf53_28 : decode cJ0_indexOf_7cf53 28 = .ok (.iload_n 2, 1) := by decide +kernel
theorem dJ0_indexOf_7cf53_29 : decode cJ0_indexOf_7cf53 29 = .ok (.aload_n 0, 1) := by decide +kernel
theorem dJ0_indexOf_7cf53_30 : decode cJ0_indexOf_7cf53 30 = .ok (.invokevirtual 505, 3) := by decide +kernel
theorem dJ0_indexOf_7cf53_33 : decode cJ0_indexOf_7cf53 33 = .ok (.invokestatic 640, 3) := by decide +kernel
theorem dJ0_indexOf_7cf53_36 : decode cJ0_indexOf_7cf53 36 = .ok (.ireturn, 1) := by decide +kernel
theorem dJ0_indexOf_0f7a4_0 : decode cJ0_indexOf_0f7a4 0 = .ok (.aload_n 0, 1) := by decide +kernel
theorem dJ0_indexOf_0f7a4_1 : decode cJ0_indexOf_0f7a4 1 = .ok (.iload_n 1, 1) := by decide +kernel
theorem dJ0_indexOf_0f7a4_2 : decode cJ0_indexOf_0f7a4 2 = .ok (.iconst 0, 1) := by decide +kernel
theorem dJ0_indexOf_0f7a4_3 : decode cJ0_indexOf_0f7a4 3 = .ok (.invokevirtual 633, 3) := by decide +kernel
theorem dJ0_indexOf_0f7a4_6 : decode cJ0_indexOf_0f7a4 6 = .ok (.ireturn, 1) := by decide +kernel
theorem dX9_takesOneOf_0 : decode cX9_takesOneOf 0 = .ok (.aload_n 0, 1) := by decide +kernel
theorem dX9_takesOneOf_1 : decode cX9_takesOneOf 1 = .ok (.getfield 19, 3) := by decide +kernel
theorem dX9_takesOneOf_4 : decode cX9_takesOneOf 4 = .ok (.aload_n 0, 1) := by decide +kernel
theorem dX9_takesOneOf_5 : decode cX9_takesOneOf 5 = .ok (.getfield 22, 3) := by decide +kernel
theorem dX9_takesOneOf_8 : decode cX9_takesOneOf 8 = .ok (.if_icmp .lt 5, 3) := by decide +kernel
theorem dX9_takesOneOf_11 : decode cX9_takesOneOf 11 = .ok (.iconst (-1), 1) := by decide +kernel
theorem dX9_takesOneOf_12 : decode cX9_takesOneOf 12 = .ok (.ireturn, 1) := by decide +kernel
theorem dX9_takesOneOf_13 : decode cX9_takesOneOf 13 = .ok (.aload_n 1, 1) := by decide +kernel
theorem dX9_takesOneOf_14 : decode cX9_takesOneOf 14 = .ok (.aload_n 0, 1) := by decide +kernel
theorem dX9_takesOneOf_15 : decode cX9_takesOneOf 15 = .ok (.getfield 11, 3) := by decide +kernel
theorem dX9_takesOneOf_18 : decode cX9_takesOneOf 18 = .ok (.aload_n 0, 1) := by decide +kernel
theorem dX9_takesOneOf_19 : decode cX9_takesOneOf 19 = .ok (.getfield 19, 3) := by decide +kernel
theorem dX9_takesOneOf_22 : decode cX9_takesOneOf 22 = .ok (.caload, 1) := by decide +kernel
theorem dX9_takesOneOf_23 : decode cX9_takesOneOf 23 = .ok (.invokevirtual 34, 3) := by decide +kernel
theorem dX9_takesOneOf_26 : decode cX9_takesOneOf 26 = .ok (.istore_n 2, 1) := by decide +kernel
theorem dX9_takesOneOf_27 : decode cX9_takesOneOf 27 = .ok (.iload_n 2, 1) := by decide +kernel
theorem dX9_takesOneOf_28 : decode cX9_takesOneOf 28 = .ok (.ifCond .lt 13, 3) := by decide +kernel
theorem dX9_takesOneOf_31 : decode cX9_takesOneOf 31 = .ok (.aload_n 0, 1) := by decide +kernel
theorem dX9_takesOneOf_32 : decode cX9_takesOneOf 32 = .ok (.dup, 1) := by decide +kernel
theorem dX9_takesOneOf_33 : decode cX9_takesOneOf 33 = .ok (.getfield 19, 3) := by decide +kernel
theorem dX9_takesOneOf_36 : decode cX9_takesOneOf 36 = .ok (.iconst 1, 1) := by decide +kernel
theorem dX9_takesOneOf_37 : decode cX9_takesOneOf 37 = .ok (.iadd, 1) := by decide +kernel
theorem dX9_takesOneOf_38 : decode cX9_takesOneOf 38 = .ok (.putfield 19, 3) := by decide +kernel
theorem dX9_takesOneOf_41 : decode cX9_takesOneOf 41 = .ok (.iload_n 2, 1) := by decide +kernel
theorem dX9_takesOneOf_42 : decode cX9_takesOneOf 42 = .ok (.ireturn, 1) := by decide +kernel
theorem dX3_readsRest_0 : decode cX3_readsRest 0 = .ok (.aload_n 1, 1) := by decide +kernel
theorem dX3_readsRest_1 : decode cX3_readsRest 1 = .ok (.ldc 59, 2) := by decide +kernel
theorem dX3_readsRest_3 : decode cX3_readsRest 3 = .ok (.invokevirtual 61, 3) := by decide +kernel
theorem dX3_readsRest_6 : decode cX3_readsRest 6 = .ok (.istore_n 3, 1) := by decide +kernel
theorem dX3_readsRest_7 : decode cX3_readsRest 7 = .ok (.iload_n 3, 1) := by decide +kernel
theorem dX3_readsRest_8 : decode cX3_readsRest 8 = .ok (.ifCond .ge 5, 3) := by decide +kernel
theorem dX3_readsRest_11 : decode cX3_readsRest 11 = .ok (.iconst 0, 1) := by decide +kernel
theorem dX3_readsRest_12 : decode cX3_readsRest 12 = .ok (.ireturn, 1) := by decide +kernel
theorem dX3_readsRest_13 : decode cX3_readsRest 13 = .ok (.aload_n 0, 1) := by decide +kernel
theorem dX3_readsRest_14 : decode cX3_readsRest 14 = .ok (.getfield 18, 3) := by decide +kernel
theorem dX3_readsRest_17 : decode cX3_readsRest 17 = .ok (.iload_n 2, 1) := by decide +kernel
theorem dX3_readsRest_18 : decode cX3_readsRest 18 = .ok (.iload_n 3, 1) := by decide +kernel
theorem dX3_readsRest_19 : decode cX3_readsRest 19 = .ok (.ifCond .ne 7, 3) := by decide +kernel
theorem dX3_readsRest_22 : decode cX3_readsRest 22 = .ok (.iconst 1, 1) := by decide +kernel
theorem dX3_readsRest_23 : decode cX3_readsRest 23 = .ok (.goto 4, 3) := by decide +kernel
theorem dX3_readsRest_26 : decode cX3_readsRest 26 = .ok (.iconst 0, 1) := by decide +kernel
theorem dX3_readsRest_27 : decode cX3_readsRest 27 = .ok (.bastore, 1) := by decide +kernel
theorem dX3_readsRest_28 : decode cX3_readsRest 28 = .ok (.aload_n 0, 1) := by decide +kernel
theorem dX3_readsRest_29 : decode cX3_readsRest 29 = .ok (.getfield 22, 3) := by decide +kernel
theorem dX3_readsRest_32 : decode cX3_readsRest 32 = .ok (.iload_n 2, 1) := by decide +kernel
theorem dX3_readsRest_33 : decode cX3_readsRest 33 = .ok (.aload_n 1, 1) := by decide +kernel
theorem dX3_readsRest_34 : decode cX3_readsRest 34 = .ok (.iconst 4, 1) := by decide +kernel
theorem dX3_readsRest_35 : decode cX3_readsRest 35 = .ok (.invokevirtual 65, 3) := by decide +kernel
theorem dX3_readsRest_38 : decode cX3_readsRest 38 = .ok (.iastore, 1) := by decide +kernel
theorem dX3_readsRest_39 : decode cX3_readsRest 39 = .ok (.aload_n 0, 1) := by decide +kernel
theorem dX3_readsRest_40 : decode cX3_readsRest 40 = .ok (.getfield 22, 3) := by decide +kernel
theorem dX3_readsRest_43 : decode cX3_readsRest 43 = .ok (.iload_n 2, 1) := by decide +kernel
theorem dX3_readsRest_44 : decode cX3_readsRest 44 = .ok (.iaload, 1) := by decide +kernel
theorem dX3_readsRest_45 : decode cX3_readsRest 45 = .ok (.ifCond .ge 5, 3) := by decide +kernel
theorem dX3_readsRest_48 : decode cX3_readsRest 48 = .ok (.iconst 0, 1) := by decide +kernel
theorem dX3_readsRest_49 : decode cX3_readsRest 49 = .ok (.ireturn, 1) := by decide +kernel
theorem dX3_readsRest_50 : decode cX3_readsRest 50 = .ok (.aload_n 0, 1) := by decide +kernel
theorem dX3_readsRest_51 : decode cX3_readsRest 51 = .ok (.getfield 25, 3) := by decide +kernel
theorem dX3_readsRest_54 : decode cX3_readsRest 54 = .ok (.iload_n 2, 1) := by decide +kernel
theorem dX3_readsRest_55 : decode cX3_readsRest 55 = .ok (.aload_n 0, 1) := by decide +kernel
theorem dX3_readsRest_56 : decode cX3_readsRest 56 = .ok (.aload_n 1, 1) := by decide +kernel
theorem dX3_readsRest_57 : decode cX3_readsRest 57 = .ok (.invokevirtual 68, 3) := by decide +kernel
theorem dX3_readsRest_60 : decode cX3_readsRest 60 = .ok (.iastore, 1) := by decide +kernel
theorem dX3_readsRest_61 : decode cX3_readsRest 61 = .ok (.aload_n 0, 1) := by decide +kernel
theorem dX3_readsRest_62 : decode cX3_readsRest 62 = .ok (.dup, 1) := by decide +kernel
theorem dX3_readsRest_63 : decode cX3_readsRest 63 = .ok (.getfield 32, 3) := by decide +kernel
theorem dX3_readsRest_66 : decode cX3_readsRest 66 = .ok (.aload_n 0, 1) := by decide +kernel
theorem dX3_readsRest_67 : decode cX3_readsRest 67 = .ok (.getfield 25, 3) := by decide +kernel
theorem dX3_readsRest_70 : decode cX3_readsRest 70 = .ok (.iload_n 2, 1) := by decide +kernel
theorem dX3_readsRest_71 : decode cX3_readsRest 71 = .ok (.iaload, 1) := by decide +kernel
theorem dX3_readsRest_72 : decode cX3_readsRest 72 = .ok (.ior, 1) := by decide +kernel
theorem dX3_readsRest_73 : decode cX3_readsRest 73 = .ok (.putfield 32, 3) := by decide +kernel
theorem dX3_readsRest_76 : decode cX3_readsRest 76 = .ok (.iconst 1, 1) := by decide +kernel
theorem dX3_readsRest_77 : decode cX3_readsRest 77 = .ok (.ireturn, 1) := by decide +kernel
theorem dX3_readsOne_0 : decode cX3_readsOne 0 = .ok (.aload_n 0, 1) := by decide +kernel
theorem dX3_readsOne_1 : decode cX3_readsOne 1 = .ok (.getfield 28, 3) := by decide +kernel
theorem dX3_readsOne_4 : decode cX3_readsOne 4 = .ok (.iload_n 2, 1) := by decide +kernel
theorem dX3_readsOne_5 : decode cX3_readsOne 5 = .ok (.iadd, 1) := by decide +kernel
theorem dX3_readsOne_6 : decode cX3_readsOne 6 = .ok (.istore_n 3, 1) := by decide +kernel
theorem dX3_readsOne_7 : decode cX3_readsOne 7 = .ok (.iload_n 3, 1) := by decide +kernel
theorem dX3_readsOne_8 : decode cX3_readsOne 8 = .ok (.ifCond .lt 9, 3) := by decide +kernel
theorem dX3_readsOne_11 : decode cX3_readsOne 11 = .ok (.iload_n 3, 1) := by decide +kernel
theorem dX3_readsOne_12 : decode cX3_readsOne 12 = .ok (.bipush 6, 2) := by decide +kernel
theorem dX3_readsOne_14 : decode cX3_readsOne 14 = .ok (.if_icmp .lt 5, 3) := by decide +kernel
theorem dX3_readsOne_17 : decode cX3_readsOne 17 = .ok (.iconst 0, 1) := by decide +kernel
theorem dX3_readsOne_18 : decode cX3_readsOne 18 = .ok (.ireturn, 1) := by decide +kernel
theorem dX3_readsOne_19 : decode cX3_readsOne 19 = .ok (.aload_n 0, 1) := by decide +kernel
theorem dX3_readsOne_20 : decode cX3_readsOne 20 = .ok (.iload_n 2, 1) := by decide +kernel
theorem dX3_readsOne_21 : decode cX3_readsOne 21 = .ok (.ifCond .ne 10, 3) := by decide +kernel
theorem dX3_readsOne_24 : decode cX3_readsOne 24 = .ok (.aload_n 0, 1) := by decide +kernel
theorem dX3_readsOne_25 : decode cX3_readsOne 25 = .ok (.invokevirtual 35, 3) := by decide +kernel
theorem dX3_readsOne_28 : decode cX3_readsOne 28 = .ok (.goto 7, 3) := by decide +kernel
theorem dX3_readsOne_31 : decode cX3_readsOne 31 = .ok (.aload_n 0, 1) := by decide +kernel
theorem dX3_readsOne_32 : decode cX3_readsOne 32 = .ok (.getfield 32, 3) := by decide +kernel
theorem dX3_readsOne_35 : decode cX3_readsOne 35 = .ok (.putfield 32, 3) := by decide +kernel
theorem dX3_readsOne_38 : decode cX3_readsOne 38 = .ok (.aload_n 0, 1) := by decide +kernel
theorem dX3_readsOne_39 : decode cX3_readsOne 39 = .ok (.aload_n 1, 1) := by decide +kernel
theorem dX3_readsOne_40 : decode cX3_readsOne 40 = .ok (.iload_n 3, 1) := by decide +kernel
theorem dX3_readsOne_41 : decode cX3_readsOne 41 = .ok (.invokevirtual 39, 3) := by decide +kernel
theorem dX3_readsOne_44 : decode cX3_readsOne 44 = .ok (.ifCond .eq 16, 3) := by decide +kernel
theorem dX3_readsOne_47 : decode cX3_readsOne 47 = .ok (.aload_n 0, 1) := by decide +kernel
theorem dX3_readsOne_48 : decode cX3_readsOne 48 = .ok (.aload_n 1, 1) := by decide +kernel
theorem dX3_readsOne_49 : decode cX3_readsOne 49 = .ok (.iload_n 3, 1) := by decide +kernel
theorem dX3_readsOne_50 : decode cX3_readsOne 50 = .ok (.invokevirtual 43, 3) := by decide +kernel
theorem dX3_readsOne_53 : decode cX3_readsOne 53 = .ok (.ifCond .eq 7, 3) := by decide +kernel
theorem dX3_readsOne_56 : decode cX3_readsOne 56 = .ok (.iconst 1, 1) := by decide +kernel
theorem dX3_readsOne_57 : decode cX3_readsOne 57 = .ok (.goto 4, 3) := by decide +kernel
theorem dX3_readsOne_60 : decode cX3_readsOne 60 = .ok (.iconst 0, 1) := by decide +kernel
theorem dX3_readsOne_61 : decode cX3_readsOne 61 = .ok (.ireturn, 1) := by decide +kernel
theorem dX9_isRead_0 : decode cX9_isRead 0 = .ok (.aload_n 0, 1) := by decide +kernel
theorem dX9_isRead_1 : decode cX9_isRead 1 = .ok (.getfield 19, 3) := by decide +kernel
theorem dX9_isRead_4 : decode cX9_isRead 4 = .ok (.aload_n 0, 1) := by decide +kernel
theorem dX9_isRead_5 : decode cX9_isRead 5 = .ok (.getfield 15, 3) := by decide +kernel
theorem dX9_isRead_8 : decode cX9_isRead 8 = .ok (.if_icmp .ne 7, 3) := by decide +kernel
theorem dX9_isRead_11 : decode cX9_isRead 11 = .ok (.iconst 1, 1) := by decide +kernel
theorem dX9_isRead_12 : decode cX9_isRead 12 = .ok (.goto 4, 3) := by decide +kernel
theorem dX9_isRead_15 : decode cX9_isRead 15 = .ok (.iconst 0, 1) := by decide +kernel
theorem dX9_isRead_16 : decode cX9_isRead 16 = .ok (.ireturn, 1) := by decide +kernel
theorem dX9_open_0 : decode cX9_open 0 = .ok (.aload_n 0, 1) := by decide +kernel
theorem dX9_open_1 : decode cX9_open 1 = .ok (.iconst 0, 1) := by decide +kernel
theorem dX9_open_2 : decode cX9_open 2 = .ok (.putfield 19, 3) := by decide +kernel
theorem dX9_open_5 : decode cX9_open 5 = .ok (.aload_n 0, 1) := by decide +kernel
theorem dX9_open_6 : decode cX9_open 6 = .ok (.aload_n 0, 1) := by decide +kernel
theorem dX9_open_7 : decode cX9_open 7 = .ok (.getfield 15, 3) := by decide +kernel
theorem dX9_open_10 : decode cX9_open 10 = .ok (.iload_n 1, 1) := by decide +kernel
theorem dX9_open_11 : decode cX9_open 11 = .ok (.invokestatic 25, 3) := by decide +kernel
theorem dX9_open_14 : decode cX9_open 14 = .ok (.putfield 22, 3) := by decide +kernel
theorem dX9_open_17 : decode cX9_open 17 = .ok (.return_, 1) := by decide +kernel
theorem dX9_wrong_0 : decode cX9_wrong 0 = .ok (.iconst (-1), 1) := by decide +kernel
theorem dX9_wrong_1 : decode cX9_wrong 1 = .ok (.aload_n 0, 1) := by decide +kernel
theorem dX9_wrong_2 : decode cX9_wrong 2 = .ok (.getfield 19, 3) := by decide +kernel
theorem dX9_wrong_5 : decode cX9_wrong 5 = .ok (.isub, 1) := by decide +kernel
theorem dX9_wrong_6 : decode cX9_wrong 6 = .ok (.ireturn, 1) := by decide +kernel
theorem dX5_readAll_0 : decode cX5_readAll 0 = .ok (.aload_n 1, 1) := by decide +kernel
theorem dX5_readAll_1 : decode cX5_readAll 1 = .ok (.iload_n 2, 1) := by decide +kernel
theorem dX5_readAll_2 : decode cX5_readAll 2 = .ok (.invokevirtual 7, 3) := by decide +kernel
theorem dX5_readAll_5 : decode cX5_readAll 5 = .ok (.aload_n 1, 1) := by decide +kernel
theorem dX5_readAll_6 : decode cX5_readAll 6 = .ok (.invokevirtual 13, 3) := by decide +kernel
theorem dX5_readAll_9 : decode cX5_readAll 9 = .ok (.ifCond .eq 5, 3) := by decide +kernel
theorem dX5_readAll_12 : decode cX5_readAll 12 = .ok (.iconst 0, 1) := by decide +kernel
theorem dX5_readAll_13 : decode cX5_readAll 13 = .ok (.ireturn, 1) := by decide +kernel
theorem dX5_readAll_14 : decode cX5_readAll 14 = .ok (.iconst 0, 1) := by decide +kernel
theorem dX5_readAll_15 : decode cX5_readAll 15 = .ok (.istore_n 3, 1) := by decide +kernel
theorem dX5_readAll_16 : decode cX5_readAll 16 = .ok (.iload_n 3, 1) := by decide +kernel
theorem dX5_readAll_17 : decode cX5_readAll 17 = .ok (.bipush 80, 2) := by decide +kernel
theorem dX5_readAll_19 : decode cX5_readAll 19 = .ok (.if_icmp .ge 48, 3) := by decide +kernel
theorem dX5_readAll_22 : decode cX5_readAll 22 = .ok (.aload_n 0, 1) := by decide +kernel
theorem dX5_readAll_23 : decode cX5_readAll 23 = .ok (.aload_n 1, 1) := by decide +kernel
theorem dX5_readAll_24 : decode cX5_readAll 24 = .ok (.iload_n 3, 1) := by decide +kernel
theorem dX5_readAll_25 : decode cX5_readAll 25 = .ok (.invokevirtual 17, 3) := by decide +kernel
theorem dX5_readAll_28 : decode cX5_readAll 28 = .ok (.ifCond .ne 8, 3) := by decide +kernel
theorem dX5_readAll_31 : decode cX5_readAll 31 = .ok (.aload_n 1, 1) := by decide +kernel
theorem dX5_readAll_32 : decode cX5_readAll 32 = .ok (.invokevirtual 23, 3) := by decide +kernel
theorem dX5_readAll_35 : decode cX5_readAll 35 = .ok (.ireturn, 1) := by decide +kernel
theorem dX5_readAll_36 : decode cX5_readAll 36 = .ok (.aload_n 1, 1) := by decide +kernel
theorem dX5_readAll_37 : decode cX5_readAll 37 = .ok (.invokevirtual 13, 3) := by decide +kernel
theorem dX5_readAll_40 : decode cX5_readAll 40 = .ok (.ifCond .eq 7, 3) := by decide +kernel
theorem dX5_readAll_43 : decode cX5_readAll 43 = .ok (.iload_n 3, 1) := by decide +kernel
theorem dX5_readAll_44 : decode cX5_readAll 44 = .ok (.iconst 1, 1) := by decide +kernel
theorem dX5_readAll_45 : decode cX5_readAll 45 = .ok (.iadd, 1) := by decide +kernel
theorem dX5_readAll_46 : decode cX5_readAll 46 = .ok (.ireturn, 1) := by decide +kernel
theorem dX5_readAll_47 : decode cX5_readAll 47 = .ok (.aload_n 1, 1) := by decide +kernel
theorem dX5_readAll_48 : decode cX5_readAll 48 = .ok (.bipush 59, 2) := by decide +kernel
theorem dX5_readAll_50 : decode cX5_readAll 50 = .ok (.invokevirtual 27, 3) := by decide +kernel
theorem dX5_readAll_53 : decode cX5_readAll 53 = .ok (.ifCond .ne 8, 3) := by decide +kernel
theorem dX5_readAll_56 : decode cX5_readAll 56 = .ok (.aload_n 1, 1) := by decide +kernel
theorem dX5_readAll_57 : decode cX5_readAll 57 = .ok (.invokevirtual 23, 3) := by decide +kernel
theorem dX5_readAll_60 : decode cX5_readAll 60 = .ok (.ireturn, 1) := by decide +kernel
theorem dX5_readAll_61 : decode cX5_readAll 61 = .ok (.iinc 3 1, 3) := by decide +kernel
theorem dX5_readAll_64 : decode cX5_readAll 64 = .ok (.goto (-48), 3) := by decide +kernel
theorem dX5_readAll_67 : decode cX5_readAll 67 = .ok (.aload_n 1, 1) := by decide +kernel
theorem dX5_readAll_68 : decode cX5_readAll 68 = .ok (.invokevirtual 23, 3) := by decide +kernel
theorem dX5_readAll_71 : decode cX5_readAll 71 = .ok (.ireturn, 1) := by decide +kernel
theorem dX9_empty_0 : decode cX9_empty 0 = .ok (.aload_n 0, 1) := by decide +kernel
theorem dX9_empty_1 : decode cX9_empty 1 = .ok (.iconst 0, 1) := by decide +kernel
theorem dX9_empty_2 : decode cX9_empty 2 = .ok (.putfield 15, 3) := by decide +kernel
theorem dX9_empty_5 : decode cX9_empty 5 = .ok (.return_, 1) := by decide +kernel
theorem dX11_prisoners_0 : decode cX11_prisoners 0 = .ok (.aload_n 0, 1) := by decide +kernel
theorem dX11_prisoners_1 : decode cX11_prisoners 1 = .ok (.getfield 26, 3) := by decide +kernel
theorem dX11_prisoners_4 : decode cX11_prisoners 4 = .ok (.aload_n 0, 1) := by decide +kernel
theorem dX11_prisoners_5 : decode cX11_prisoners 5 = .ok (.getfield 10, 3) := by decide +kernel
theorem dX11_prisoners_8 : decode cX11_prisoners 8 = .ok (.bipush 76, 2) := by decide +kernel
theorem dX11_prisoners_10 : decode cX11_prisoners 10 = .ok (.invokevirtual 112, 3) := by decide +kernel
theorem dX11_prisoners_13 : decode cX11_prisoners 13 = .ok (.istore_n 1, 1) := by decide +kernel
theorem dX11_prisoners_14 : decode cX11_prisoners 14 = .ok (.aload_n 0, 1) := by decide +kernel
theorem dX11_prisoners_15 : decode cX11_prisoners 15 = .ok (.getfield 10, 3) := by decide +kernel
theorem dX11_prisoners_18 : decode cX11_prisoners 18 = .ok (.invokevirtual 116, 3) := by decide +kernel
theorem dX11_prisoners_21 : decode cX11_prisoners 21 = .ok (.iload_n 1, 1) := by decide +kernel
theorem dX11_prisoners_22 : decode cX11_prisoners 22 = .ok (.ifCond .le 43, 3) := by decide +kernel
theorem dX11_prisoners_25 : decode cX11_prisoners 25 = .ok (.aload_n 0, 1) := by decide +kernel
theorem dX11_prisoners_26 : decode cX11_prisoners 26 = .ok (.getfield 65, 3) := by decide +kernel
theorem dX11_prisoners_29 : decode cX11_prisoners 29 = .ok (.aload_n 0, 1) := by decide +kernel
theorem dX11_prisoners_30 : decode cX11_prisoners 30 = .ok (.getfield 26, 3) := by decide +kernel
theorem dX11_prisoners_33 : decode cX11_prisoners 33 = .ok (.getfield 119, 3) := by decide +kernel
theorem dX11_prisoners_36 : decode cX11_prisoners 36 = .ok (.aload_n 0, 1) := by decide +kernel
theorem dX11_prisoners_37 : decode cX11_prisoners 37 = .ok (.getfield 26, 3) := by decide +kernel
theorem dX11_prisoners_40 : decode cX11_prisoners 40 = .ok (.getfield 119, 3) := by decide +kernel
theorem dX11_prisoners_43 : decode cX11_prisoners 43 = .ok (.iload_n 1, 1) := by decide +kernel
theorem dX11_prisoners_44 : decode cX11_prisoners 44 = .ok (.iadd, 1) := by decide +kernel
theorem dX11_prisoners_45 : decode cX11_prisoners 45 = .ok (.invokevirtual 122, 3) := by decide +kernel
theorem dX11_prisoners_48 : decode cX11_prisoners 48 = .ok (.aload_n 0, 1) := by decide +kernel
theorem dX11_prisoners_49 : decode cX11_prisoners 49 = .ok (.getfield 26, 3) := by decide +kernel
theorem dX11_prisoners_52 : decode cX11_prisoners 52 = .ok (.dup, 1) := by decide +kernel
theorem dX11_prisoners_53 : decode cX11_prisoners 53 = .ok (.getfield 119, 3) := by decide +kernel
theorem dX11_prisoners_56 : decode cX11_prisoners 56 = .ok (.iload_n 1, 1) := by decide +kernel
theorem dX11_prisoners_57 : decode cX11_prisoners 57 = .ok (.iadd, 1) := by decide +kernel
theorem dX11_prisoners_58 : decode cX11_prisoners 58 = .ok (.putfield 119, 3) := by decide +kernel
theorem dX11_prisoners_61 : decode cX11_prisoners 61 = .ok (.aload_n 0, 1) := by decide +kernel
theorem dX11_prisoners_62 : decode cX11_prisoners 62 = .ok (.invokevirtual 126, 3) := by decide +kernel
theorem dX11_prisoners_65 : decode cX11_prisoners 65 = .ok (.iload_n 1, 1) := by decide +kernel
theorem dX11_prisoners_66 : decode cX11_prisoners 66 = .ok (.ireturn, 1) := by decide +kernel
theorem dX12_allGoods_0 : decode cX12_allGoods 0 = .ok (.iconst 0, 1) := by decide +kernel
theorem dX12_allGoods_1 : decode cX12_allGoods 1 = .ok (.istore_n 1, 1) := by decide +kernel
theorem dX12_allGoods_2 : decode cX12_allGoods 2 = .ok (.iconst 0, 1) := by decide +kernel
theorem dX12_allGoods_3 : decode cX12_allGoods 3 = .ok (.istore_n 2, 1) := by decide +kernel
theorem dX12_allGoods_4 : decode cX12_allGoods 4 = .ok (.iload_n 2, 1) := by decide +kernel
theorem dX12_allGoods_5 : decode cX12_allGoods 5 = .ok (.aload_n 0, 1) := by decide +kernel
theorem dX12_allGoods_6 : decode cX12_allGoods 6 = .ok (.getfield 101, 3) := by decide +kernel
theorem dX12_allGoods_9 : decode cX12_allGoods 9 = .ok (.if_icmp .ge 18, 3) := by decide +kernel
theorem dX12_allGoods_12 : decode cX12_allGoods 12 = .ok (.iload_n 1, 1) := by decide +kernel
theorem dX12_allGoods_13 : decode cX12_allGoods 13 = .ok (.aload_n 0, 1) := by decide +kernel
theorem dX12_allGoods_14 : decode cX12_allGoods 14 = .ok (.getfield 26, 3) := by decide +kernel
theorem dX12_allGoods_17 : decode cX12_allGoods 17 = .ok (.iload_n 2, 1) := by decide +kernel
theorem dX12_allGoods_18 : decode cX12_allGoods 18 = .ok (.iaload, 1) := by decide +kernel
theorem dX12_allGoods_19 : decode cX12_allGoods 19 = .ok (.ior, 1) := by decide +kernel
theorem dX12_allGoods_20 : decode cX12_allGoods 20 = .ok (.istore_n 1, 1) := by decide +kernel
theorem dX12_allGoods_21 : decode cX12_allGoods 21 = .ok (.iinc 2 1, 3) := by decide +kernel
theorem dX12_allGoods_24 : decode cX12_allGoods 24 = .ok (.goto (-20), 3) := by decide +kernel
theorem dX12_allGoods_27 : decode cX12_allGoods 27 = .ok (.iload_n 1, 1) := by decide +kernel
theorem dX12_allGoods_28 : decode cX12_allGoods 28 = .ok (.ireturn, 1) := by decide +kernel
theorem dX12_begin_0 : decode cX12_begin 0 = .ok (.aload_n 0, 1) := by decide +kernel
theorem dX12_begin_1 : decode cX12_begin 1 = .ok (.aload_n 1, 1) := by decide +kernel
theorem dX12_begin_2 : decode cX12_begin 2 = .ok (.putfield 111, 3) := by decide +kernel
theorem dX12_begin_5 : decode cX12_begin 5 = .ok (.aload_n 0, 1) := by decide +kernel
theorem dX12_begin_6 : decode cX12_begin 6 = .ok (.iload_n 2, 1) := by decide +kernel
theorem dX12_begin_7 : decode cX12_begin 7 = .ok (.putfield 114, 3) := by decide +kernel
theorem dX12_begin_10 : decode cX12_begin 10 = .ok (.aload_n 0, 1) := by decide +kernel
theorem dX12_begin_11 : decode cX12_begin 11 = .ok (.iload_n 3, 1) := by decide +kernel
theorem dX12_begin_12 : decode cX12_begin 12 = .ok (.putfield 117, 3) := by decide +kernel
theorem dX12_begin_15 : decode cX12_begin 15 = .ok (.aload_n 0, 1) := by decide +kernel
theorem dX12_begin_16 : decode cX12_begin 16 = .ok (.iconst 0, 1) := by decide +kernel
theorem dX12_begin_17 : decode cX12_begin 17 = .ok (.putfield 120, 3) := by decide +kernel
theorem dX12_begin_20 : decode cX12_begin 20 = .ok (.aload_n 0, 1) := by decide +kernel
theorem dX12_begin_21 : decode cX12_begin 21 = .ok (.iconst (-1), 1) := by decide +kernel
theorem dX12_begin_22 : decode cX12_begin 22 = .ok (.putfield 123, 3) := by decide +kernel
theorem dX12_begin_25 : decode cX12_begin 25 = .ok (.return_, 1) := by decide +kernel
theorem dX12_beginText_0 : decode cX12_beginText 0 = .ok (.aload_n 0, 1) := by decide +kernel
theorem dX12_beginText_1 : decode cX12_beginText 1 = .ok (.aload_n 0, 1) := by decide +kernel
theorem dX12_beginText_2 : decode cX12_beginText 2 = .ok (.getfield 45, 3) := by decide +kernel
theorem dX12_beginText_5 : decode cX12_beginText 5 = .ok (.aload_n 0, 1) := by decide +kernel
theorem dX12_beginText_6 : decode cX12_beginText 6 = .ok (.getfield 108, 3) := by decide +kernel
theorem dX12_beginText_9 : decode cX12_beginText 9 = .ok (.iload_n 1, 1) := by decide +kernel
theorem dX12_beginText_10 : decode cX12_beginText 10 = .ok (.invokevirtual 126, 3) := by decide +kernel
theorem dX12_beginText_13 : decode cX12_beginText 13 = .ok (.aload_n 0, 1) := by decide +kernel
theorem dX12_beginText_14 : decode cX12_beginText 14 = .ok (.iconst 0, 1) := by decide +kernel
theorem dX12_beginText_15 : decode cX12_beginText 15 = .ok (.putfield 108, 3) := by decide +kernel
theorem dX12_beginText_18 : decode cX12_beginText 18 = .ok (.return_, 1) := by decide +kernel
theorem dX12_fine_0 : decode cX12_fine 0 = .ok (.aload_n 0, 1) := by decide +kernel
theorem dX12_fine_1 : decode cX12_fine 1 = .ok (.getfield 123, 3) := by decide +kernel
theorem dX12_fine_4 : decode cX12_fine 4 = .ok (.iconst (-1), 1) := by decide +kernel
theorem dX12_fine_5 : decode cX12_fine 5 = .ok (.if_icmp .ne 7, 3) := by decide +kernel
theorem dX12_fine_8 : decode cX12_fine 8 = .ok (.iconst 1, 1) := by decide +kernel
theorem dX12_fine_9 : decode cX12_fine 9 = .ok (.goto 4, 3) := by decide +kernel
theorem dX12_fine_12 : decode cX12_fine 12 = .ok (.iconst 0, 1) := by decide +kernel
theorem dX12_fine_13 : decode cX12_fine 13 = .ok (.ireturn, 1) := by decide +kernel
theorem dX12_fault_0 : decode cX12_fault 0 = .ok (.aload_n 0, 1) := by decide +kernel
theorem dX12_fault_1 : decode cX12_fault 1 = .ok (.invokevirtual 130, 3) := by decide +kernel
theorem dX12_fault_4 : decode cX12_fault 4 = .ok (.ifCond .eq 8, 3) := by decide +kernel
theorem dX12_fault_7 : decode cX12_fault 7 = .ok (.aload_n 0, 1) := by decide +kernel
theorem dX12_fault_8 : decode cX12_fault 8 = .ok (.iload_n 1, 1) := by decide +kernel
theorem dX12_fault_9 : decode cX12_fault 9 = .ok (.putfield 123, 3) := by decide +kernel
theorem dX12_fault_12 : decode cX12_fault 12 = .ok (.return_, 1) := by decide +kernel
theorem dX12_here_0 : decode cX12_here 0 = .ok (.aload_n 0, 1) := by decide +kernel
theorem dX12_here_1 : decode cX12_here 1 = .ok (.getfield 120, 3) := by decide +kernel
theorem dX12_here_4 : decode cX12_here 4 = .ok (.aload_n 0, 1) := by decide +kernel
theorem dX12_here_5 : decode cX12_here 5 = .ok (.getfield 114, 3) := by decide +kernel
theorem dX12_here_8 : decode cX12_here 8 = .ok (.if_icmp .ge 30, 3) := by decide +kernel
theorem dX12_here_11 : decode cX12_here 11 = .ok (.aload_n 0, 1) := by decide +kernel
theorem dX12_here_12 : decode cX12_here 12 = .ok (.getfield 120, 3) := by decide +kernel
theorem dX12_here_15 : decode cX12_here 15 = .ok (.aload_n 0, 1) := by decide +kernel
theorem dX12_here_16 : decode cX12_here 16 = .ok (.getfield 117, 3) := by decide +kernel
theorem dX12_here_19 : decode cX12_here 19 = .ok (.if_icmp .ge 19, 3) := by decide +kernel
theorem dX12_here_22 : decode cX12_here 22 = .ok (.aload_n 0, 1) := by decide +kernel
theorem dX12_here_23 : decode cX12_here 23 = .ok (.getfield 111, 3) := by decide +kernel
theorem dX12_here_26 : decode cX12_here 26 = .ok (.aload_n 0, 1) := by decide +kernel
theorem dX12_here_27 : decode cX12_here 27 = .ok (.getfield 120, 3) := by decide +kernel
theorem dX12_here_30 : decode cX12_here 30 = .ok (.baload, 1) := by decide +kernel
theorem dX12_here_31 : decode cX12_here 31 = .ok (.sipush 255, 3) := by decide +kernel
theorem dX12_here_34 : decode cX12_here 34 = .ok (.iand, 1) := by decide +kernel
theorem dX12_here_35 : decode cX12_here 35 = .ok (.goto 4, 3) := by decide +kernel
theorem dX12_here_38 : decode cX12_here 38 = .ok (.iconst (-1), 1) := by decide +kernel
theorem dX12_here_39 : decode cX12_here 39 = .ok (.ireturn, 1) := by decide +kernel
theorem dX12_passes_0 : decode cX12_passes 0 = .ok (.aload_n 0, 1) := by decide +kernel
theorem dX12_passes_1 : decode cX12_passes 1 = .ok (.invokevirtual 130, 3) := by decide +kernel
theorem dX12_passes_4 : decode cX12_passes 4 = .ok (.ifCond .eq 11, 3) := by decide +kernel
theorem dX12_passes_7 : decode cX12_passes 7 = .ok (.aload_n 0, 1) := by decide +kernel
theorem dX12_passes_8 : decode cX12_passes 8 = .ok (.invokevirtual 134, 3) := by decide +kernel
theorem dX12_passes_11 : decode cX12_passes 11 = .ok (.iload_n 1, 1) := by decide +kernel
theorem dX12_passes_12 : decode cX12_passes 12 = .ok (.if_icmp .eq 5, 3) := by decide +kernel
theorem dX12_passes_15 : decode cX12_passes 15 = .ok (.iconst 0, 1) := by decide +kernel
theorem dX12_passes_16 : decode cX12_passes 16 = .ok (.ireturn, 1) := by decide +kernel
theorem dX12_passes_17 : decode cX12_passes 17 = .ok (.aload_n 0, 1) := by decide +kernel
theorem dX12_passes_18 : decode cX12_passes 18 = .ok (.dup, 1) := by decide +kernel
theorem dX12_passes_19 : decode cX12_passes 19 = .ok (.getfield 120, 3) := by decide +kernel
theorem dX12_passes_22 : decode cX12_passes 22 = .ok (.iconst 1, 1) := by decide +kernel
theorem dX12_passes_23 : decode cX12_passes 23 = .ok (.iadd, 1) := by decide +kernel
theorem dX12_passes_24 : decode cX12_passes 24 = .ok (.putfield 120, 3) := by decide +kernel
theorem dX12_passes_27 : decode cX12_passes 27 = .ok (.iconst 1, 1) := by decide +kernel
theorem dX12_passes_28 : decode cX12_passes 28 = .ok (.ireturn, 1) := by decide +kernel
theorem dX12_has_0 : decode cX12_has 0 = .ok (.iload_n 0, 1) := by decide +kernel
theorem dX12_has_1 : decode cX12_has 1 = .ok (.iload_n 1, 1) := by decide +kernel
theorem dX12_has_2 : decode cX12_has 2 = .ok (.ishr, 1) := by decide +kernel
theorem dX12_has_3 : decode cX12_has 3 = .ok (.iconst 1, 1) := by decide +kernel
theorem dX12_has_4 : decode cX12_has 4 = .ok (.iand, 1) := by decide +kernel
theorem dX12_has_5 : decode cX12_has 5 = .ok (.iconst 1, 1) := by decide +kernel
theorem dX12_has_6 : decode cX12_has 6 = .ok (.if_icmp .ne 7, 3) := by decide +kernel
theorem dX12_has_9 : decode cX12_has 9 = .ok (.iconst 1, 1) := by decide +kernel
theorem dX12_has_10 : decode cX12_has 10 = .ok (.goto 4, 3) := by decide +kernel
theorem dX12_has_13 : decode cX12_has 13 = .ok (.iconst 0, 1) := by decide +kernel
theorem dX12_has_14 : decode cX12_has 14 = .ok (.ireturn, 1) := by decide +kernel
theorem dX12_need_0 : decode cX12_need 0 = .ok (.aload_n 0, 1) := by decide +kernel
theorem dX12_need_1 : decode cX12_need 1 = .ok (.iload_n 1, 1) := by decide +kernel
theorem dX12_need_2 : decode cX12_need 2 = .ok (.invokevirtual 138, 3) := by decide +kernel
theorem dX12_need_5 : decode cX12_need 5 = .ok (.ifCond .ne 11, 3) := by decide +kernel
theorem dX12_need_8 : decode cX12_need 8 = .ok (.aload_n 0, 1) := by decide +kernel
theorem dX12_need_9 : decode cX12_need 9 = .ok (.aload_n 0, 1) := by decide +kernel
theorem dX12_need_10 : decode cX12_need 10 = .ok (.getfield 120, 3) := by decide +kernel
theorem dX12_need_13 : decode cX12_need 13 = .ok (.invokevirtual 142, 3) := by decide +kernel
theorem dX12_need_16 : decode cX12_need 16 = .ok (.return_, 1) := by decide +kernel
theorem dX12_oneOf_0 : decode cX12_oneOf 0 = .ok (.aload_n 0, 1) := by decide +kernel
theorem dX12_oneOf_1 : decode cX12_oneOf 1 = .ok (.invokevirtual 130, 3) := by decide +kernel
theorem dX12_oneOf_4 : decode cX12_oneOf 4 = .ok (.ifCond .ne 5, 3) := by decide +kernel
theorem dX12_oneOf_7 : decode cX12_oneOf 7 = .ok (.iconst 0, 1) := by decide +kernel
theorem dX12_oneOf_8 : decode cX12_oneOf 8 = .ok (.ireturn, 1) := by decide +kernel
theorem dX12_oneOf_9 : decode cX12_oneOf 9 = .ok (.aload_n 0, 1) := by decide +kernel
theorem dX12_oneOf_10 : decode cX12_oneOf 10 = .ok (.invokevirtual 134, 3) := by decide +kernel
theorem dX12_oneOf_13 : decode cX12_oneOf 13 = .ok (.iload_n 1, 1) := by decide +kernel
theorem dX12_oneOf_14 : decode cX12_oneOf 14 = .ok (.iload_n 1, 1) := by decide +kernel
theorem dX12_oneOf_15 : decode cX12_oneOf 15 = .ok (.iload_n 2, 1) := by decide +kernel
theorem dX12_oneOf_16 : decode cX12_oneOf 16 = .ok (.iadd, 1) := by decide +kernel
theorem dX12_oneOf_17 : decode cX12_oneOf 17 = .ok (.iconst 1, 1) := by decide +kernel
theorem dX12_oneOf_18 : decode cX12_oneOf 18 = .ok (.isub, 1) := by decide +kernel
theorem dX12_oneOf_19 : decode cX12_oneOf 19 = .ok (.invokestatic 104, 3) := by decide +kernel
theorem dX12_oneOf_22 : decode cX12_oneOf 22 = .ok (.ifCond .ne 13, 3) := by decide +kernel
theorem dX12_oneOf_25 : decode cX12_oneOf 25 = .ok (.aload_n 0, 1) := by decide +kernel
theorem dX12_oneOf_26 : decode cX12_oneOf 26 = .ok (.aload_n 0, 1) := by decide +kernel
theorem dX12_oneOf_27 : decode cX12_oneOf 27 = .ok (.getfield 120, 3) := by decide +kernel
theorem dX12_oneOf_30 : decode cX12_oneOf 30 = .ok (.invokevirtual 142, 3) := by decide +kernel
theorem dX12_oneOf_33 : decode cX12_oneOf 33 = .ok (.iconst 0, 1) := by decide +kernel
theorem dX12_oneOf_34 : decode cX12_oneOf 34 = .ok (.ireturn, 1) := by decide +kernel
theorem dX12_oneOf_35 : decode cX12_oneOf 35 = .ok (.aload_n 0, 1) := by decide +kernel
theorem dX12_oneOf_36 : decode cX12_oneOf 36 = .ok (.dup, 1) := by decide +kernel
theorem dX12_oneOf_37 : decode cX12_oneOf 37 = .ok (.getfield 120, 3) := by decide +kernel
theorem dX12_oneOf_40 : decode cX12_oneOf 40 = .ok (.iconst 1, 1) := by decide +kernel
theorem dX12_oneOf_41 : decode cX12_oneOf 41 = .ok (.iadd, 1) := by decide +kernel
theorem dX12_oneOf_42 : decode cX12_oneOf 42 = .ok (.putfield 120, 3) := by decide +kernel
theorem dX12_oneOf_45 : decode cX12_oneOf 45 = .ok (.aload_n 0, 1) := by decide +kernel
theorem dX12_oneOf_46 : decode cX12_oneOf 46 = .ok (.getfield 111, 3) := by decide +kernel
theorem dX12_oneOf_49 : decode cX12_oneOf 49 = .ok (.aload_n 0, 1) := by decide +kernel
theorem dX12_oneOf_50 : decode cX12_oneOf 50 = .ok (.getfield 120, 3) := by decide +kernel
theorem dX12_oneOf_53 : decode cX12_oneOf 53 = .ok (.iconst 1, 1) := by decide +kernel
theorem dX12_oneOf_54 : decode cX12_oneOf 54 = .ok (.isub, 1) := by decide +kernel
theorem dX12_oneOf_55 : decode cX12_oneOf 55 = .ok (.baload, 1) := by decide +kernel
theorem dX12_oneOf_56 : decode cX12_oneOf 56 = .ok (.iload_n 1, 1) := by decide +kernel
theorem dX12_oneOf_57 : decode cX12_oneOf 57 = .ok (.isub, 1) := by decide +kernel
theorem dX12_oneOf_58 : decode cX12_oneOf 58 = .ok (.ireturn, 1) := by decide +kernel
theorem dX12_number_0 : decode cX12_number 0 = .ok (.aload_n 0, 1) := by decide +kernel
theorem dX12_number_1 : decode cX12_number 1 = .ok (.bipush 48, 2) := by decide +kernel
theorem dX12_number_3 : decode cX12_number 3 = .ok (.bipush 10, 2) := by decide +kernel
theorem dX12_number_5 : decode cX12_number 5 = .ok (.invokevirtual 146, 3) := by decide +kernel
theorem dX12_number_8 : decode cX12_number 8 = .ok (.istore_n 2, 1) := by decide +kernel
theorem dX12_number_9 : decode cX12_number 9 = .ok (.iconst 1, 1) := by decide +kernel
theorem dX12_number_10 : decode cX12_number 10 = .ok (.istore_n 3, 1) := by decide +kernel
theorem dX12_number_11 : decode cX12_number 11 = .ok (.iload_n 3, 1) := by decide +kernel
theorem dX12_number_12 : decode cX12_number 12 = .ok (.iload_n 1, 1) := by decide +kernel
theorem dX12_number_13 : decode cX12_number 13 = .ok (.if_icmp .ge 44, 3) := by decide +kernel
theorem dX12_number_16 : decode cX12_number 16 = .ok (.aload_n 0, 1) := by decide +kernel
theorem dX12_number_17 : decode cX12_number 17 = .ok (.invokevirtual 130, 3) := by decide +kernel
theorem dX12_number_20 : decode cX12_number 20 = .ok (.ifCond .eq 37, 3) := by decide +kernel
theorem dX12_number_23 : decode cX12_number 23 = .ok (.aload_n 0, 1) := by decide +kernel
theorem dX12_number_24 : decode cX12_number 24 = .ok (.invokevirtual 134, 3) := by decide +kernel
theorem dX12_number_27 : decode cX12_number 27 = .ok (.bipush 48, 2) := by decide +kernel
theorem dX12_number_29 : decode cX12_number 29 = .ok (.bipush 57, 2) := by decide +kernel
theorem dX12_number_31 : decode cX12_number 31 = .ok (.invokestatic 104, 3) := by decide +kernel
theorem dX12_number_34 : decode cX12_number 34 = .ok (.ifCond .eq 23, 3) := by decide +kernel
theorem dX12_number_37 : decode cX12_number 37 = .ok (.bipush 10, 2) := by decide +kernel
theorem dX12_number_39 : decode cX12_number 39 = .ok (.iload_n 2, 1) := by decide +kernel
theorem dX12_number_40 : decode cX12_number 40 = .ok (.imul, 1) := by decide +kernel
theorem dX12_number_41 : decode cX12_number 41 = .ok (.aload_n 0, 1) := by decide +kernel
theorem dX12_number_42 : decode cX12_number 42 = .ok (.bipush 48, 2) := by decide +kernel
theorem dX12_number_44 : decode cX12_number 44 = .ok (.bipush 10, 2) := by decide +kernel
theorem dX12_number_46 : decode cX12_number 46 = .ok (.invokevirtual 146, 3) := by decide +kernel
theorem dX12_number_49 : decode cX12_number 49 = .ok (.iadd, 1) := by decide +kernel
theorem dX12_number_50 : decode cX12_number 50 = .ok (.istore_n 2, 1) := by decide +kernel
theorem dX12_number_51 : decode cX12_number 51 = .ok (.iinc 3 1, 3) := by decide +kernel
theorem dX12_number_54 : decode cX12_number 54 = .ok (.goto (-43), 3) := by decide +kernel
theorem dX12_number_57 : decode cX12_number 57 = .ok (.iload_n 2, 1) := by decide +kernel
theorem dX12_number_58 : decode cX12_number 58 = .ok (.ireturn, 1) := by decide +kernel
theorem dX12_readMan_0 : decode cX12_readMan 0 = .ok (.iload_n 2, 1) := by decide +kernel
theorem dX12_readMan_1 : decode cX12_readMan 1 = .ok (.istore_n 3, 1) := by decide +kernel
theorem dX12_readMan_2 : decode cX12_readMan 2 = .ok (.aload_n 0, 1) := by decide +kernel
theorem dX12_readMan_3 : decode cX12_readMan 3 = .ok (.getfield 53, 3) := by decide +kernel
theorem dX12_readMan_6 : decode cX12_readMan 6 = .ok (.iload_n 1, 1) := by decide +kernel
theorem dX12_readMan_7 : decode cX12_readMan 7 = .ok (.aload_n 0, 1) := by decide +kernel
theorem dX12_readMan_8 : decode cX12_readMan 8 = .ok (.iconst 2, 1) := by decide +kernel
theorem dX12_readMan_9 : decode cX12_readMan 9 = .ok (.invokevirtual 150, 3) := by decide +kernel
theorem dX12_readMan_12 : decode cX12_readMan 12 = .ok (.iastore, 1) := by decide +kernel
theorem dX12_readMan_13 : decode cX12_readMan 13 = .ok (.aload_n 0, 1) := by decide +kernel
theorem dX12_readMan_14 : decode cX12_readMan 14 = .ok (.invokevirtual 130, 3) := by decide +kernel
theorem dX12_readMan_17 : decode cX12_readMan 17 = .ok (.ifCond .eq 22, 3) := by decide +kernel
theorem dX12_readMan_20 : decode cX12_readMan 20 = .ok (.aload_n 0, 1) := by decide +kernel
theorem dX12_readMan_21 : decode cX12_readMan 21 = .ok (.getfield 53, 3) := by decide +kernel
theorem dX12_readMan_24 : decode cX12_readMan 24 = .ok (.iload_n 1, 1) := by decide +kernel
theorem dX12_readMan_25 : decode cX12_readMan 25 = .ok (.iaload, 1) := by decide +kernel
theorem dX12_readMan_26 : decode cX12_readMan 26 = .ok (.ifCond .ne 13, 3) := by decide +kernel
theorem dX12_readMan_29 : decode cX12_readMan 29 = .ok (.aload_n 0, 1) := by decide +kernel
theorem dX12_readMan_30 : decode cX12_readMan 30 = .ok (.aload_n 0, 1) := by decide +kernel
theorem dX12_readMan_31 : decode cX12_readMan 31 = .ok (.getfield 120, 3) := by decide +kernel
theorem dX12_readMan_34 : decode cX12_readMan 34 = .ok (.iconst 1, 1) := by decide +kernel
theorem dX12_readMan_35 : decode cX12_readMan 35 = .ok (.isub, 1) := by decide +kernel
theorem dX12_readMan_36 : decode cX12_readMan 36 = .ok (.invokevirtual 142, 3) := by decide +kernel
theorem dX12_readMan_39 : decode cX12_readMan 39 = .ok (.aload_n 0, 1) := by decide +kernel
theorem dX12_readMan_40 : decode cX12_readMan 40 = .ok (.bipush 44, 2) := by decide +kernel
theorem dX12_readMan_42 : decode cX12_readMan 42 = .ok (.invokevirtual 154, 3) := by decide +kernel
theorem dX12_readMan_45 : decode cX12_readMan 45 = .ok (.aload_n 0, 1) := by decide +kernel
theorem dX12_readMan_46 : decode cX12_readMan 46 = .ok (.getfield 53, 3) := by decide +kernel
theorem dX12_readMan_49 : decode cX12_readMan 49 = .ok (.iload_n 1, 1) := by decide +kernel
theorem dX12_readMan_50 : decode cX12_readMan 50 = .ok (.iconst 1, 1) := by decide +kernel
theorem dX12_readMan_51 : decode cX12_readMan 51 = .ok (.iadd, 1) := by decide +kernel
theorem dX12_readMan_52 : decode cX12_readMan 52 = .ok (.aload_n 0, 1) := by decide +kernel
theorem dX12_readMan_53 : decode cX12_readMan 53 = .ok (.iconst 2, 1) := by decide +kernel
theorem dX12_readMan_54 : decode cX12_readMan 54 = .ok (.invokevirtual 150, 3) := by decide +kernel
theorem dX12_readMan_57 : decode cX12_readMan 57 = .ok (.iastore, 1) := by decide +kernel
theorem dX12_readMan_58 : decode cX12_readMan 58 = .ok (.aload_n 0, 1) := by decide +kernel
theorem dX12_readMan_59 : decode cX12_readMan 59 = .ok (.getfield 53, 3) := by decide +kernel
theorem dX12_readMan_62 : decode cX12_readMan 62 = .ok (.iload_n 1, 1) := by decide +kernel
theorem dX12_readMan_63 : decode cX12_readMan 63 = .ok (.iconst 2, 1) := by decide +kernel
theorem dX12_readMan_64 : decode cX12_readMan 64 = .ok (.iadd, 1) := by decide +kernel
theorem dX12_readMan_65 : decode cX12_readMan 65 = .ok (.aload_n 0, 1) := by decide +kernel
theorem dX12_readMan_66 : decode cX12_readMan 66 = .ok (.bipush 45, 2) := by decide +kernel
theorem dX12_readMan_68 : decode cX12_readMan 68 = .ok (.invokevirtual 138, 3) := by decide +kernel
theorem dX12_readMan_71 : decode cX12_readMan 71 = .ok (.ifCond .eq 7, 3) := by decide +kernel
theorem dX12_readMan_74 : decode cX12_readMan 74 = .ok (.iconst 1, 1) := by decide +kernel
theorem dX12_readMan_75 : decode cX12_readMan 75 = .ok (.goto 4, 3) := by decide +kernel
theorem dX12_readMan_78 : decode cX12_readMan 78 = .ok (.iconst 0, 1) := by decide +kernel
theorem dX12_readMan_79 : decode cX12_readMan 79 = .ok (.iastore, 1) := by decide +kernel
theorem dX12_readMan_80 : decode cX12_readMan 80 = .ok (.aload_n 0, 1) := by decide +kernel
theorem dX12_readMan_81 : decode cX12_readMan 81 = .ok (.getfield 53, 3) := by decide +kernel
theorem dX12_readMan_84 : decode cX12_readMan 84 = .ok (.iload_n 1, 1) := by decide +kernel
theorem dX12_readMan_85 : decode cX12_readMan 85 = .ok (.iconst 2, 1) := by decide +kernel
theorem dX12_readMan_86 : decode cX12_readMan 86 = .ok (.iadd, 1) := by decide +kernel
theorem dX12_readMan_87 : decode cX12_readMan 87 = .ok (.iaload, 1) := by decide +kernel
theorem dX12_readMan_88 : decode cX12_readMan 88 = .ok (.ifCond .ne 9, 3) := by decide +kernel
theorem dX12_readMan_91 : decode cX12_readMan 91 = .ok (.aload_n 0, 1) := by decide +kernel
theorem dX12_readMan_92 : decode cX12_readMan 92 = .ok (.bipush 43, 2) := by decide +kernel
theorem dX12_readMan_94 : decode cX12_readMan 94 = .ok (.invokevirtual 154, 3) := by decide +kernel
theorem dX12_readMan_97 : decode cX12_readMan 97 = .ok (.aload_n 0, 1) := by decide +kernel
theorem dX12_readMan_98 : decode cX12_readMan 98 = .ok (.getfield 53, 3) := by decide +kernel
theorem dX12_readMan_101 : decode cX12_readMan 101 = .ok (.iload_n 1, 1) := by decide +kernel
theorem dX12_readMan_102 : decode cX12_readMan 102 = .ok (.iconst 3, 1) := by decide +kernel
theorem dX12_readMan_103 : decode cX12_readMan 103 = .ok (.iadd, 1) := by decide +kernel
theorem dX12_readMan_104 : decode cX12_readMan 104 = .ok (.aload_n 0, 1) := by decide +kernel
theorem dX12_readMan_105 : decode cX12_readMan 105 = .ok (.bipush 48, 2) := by decide +kernel
theorem dX12_readMan_107 : decode cX12_readMan 107 = .ok (.iconst 4, 1) := by decide +kernel
theorem dX12_readMan_108 : decode cX12_readMan 108 = .ok (.invokevirtual 146, 3) := by decide +kernel
theorem dX12_readMan_111 : decode cX12_readMan 111 = .ok (.iastore, 1) := by decide +kernel
theorem dX12_readMan_112 : decode cX12_readMan 112 = .ok (.aload_n 0, 1) := by decide +kernel
theorem dX12_readMan_113 : decode cX12_readMan 113 = .ok (.getfield 53, 3) := by decide +kernel
theorem dX12_readMan_116 : decode cX12_readMan 116 = .ok (.iload_n 1, 1) := by decide +kernel
theorem dX12_readMan_117 : decode cX12_readMan 117 = .ok (.iconst 4, 1) := by decide +kernel
theorem dX12_readMan_118 : decode cX12_readMan 118 = .ok (.iadd, 1) := by decide +kernel
theorem dX12_readMan_119 : decode cX12_readMan 119 = .ok (.iconst 0, 1) := by decide +kernel
theorem dX12_readMan_120 : decode cX12_readMan 120 = .ok (.iastore, 1) := by decide +kernel
theorem dX12_readMan_121 : decode cX12_readMan 121 = .ok (.iconst (-1), 1) := by decide +kernel
theorem dX12_readMan_122 : decode cX12_readMan 122 = .ok (.istore 4, 2) := by decide +kernel
theorem dX12_readMan_124 : decode cX12_readMan 124 = .ok (.aload_n 0, 1) := by decide +kernel
theorem dX12_readMan_125 : decode cX12_readMan 125 = .ok (.invokevirtual 130, 3) := by decide +kernel
theorem dX12_readMan_128 : decode cX12_readMan 128 = .ok (.ifCond .eq 92, 3) := by decide +kernel
theorem dX12_readMan_131 : decode cX12_readMan 131 = .ok (.aload_n 0, 1) := by decide +kernel
theorem dX12_readMan_132 : decode cX12_readMan 132 = .ok (.invokevirtual 134, 3) := by decide +kernel
theorem dX12_readMan_135 : decode cX12_readMan 135 = .ok (.bipush 97, 2) := by decide +kernel
theorem dX12_readMan_137 : decode cX12_readMan 137 = .ok (.bipush 104, 2) := by decide +kernel
theorem dX12_readMan_139 : decode cX12_readMan 139 = .ok (.invokestatic 104, 3) := by decide +kernel
theorem dX12_readMan_142 : decode cX12_readMan 142 = .ok (.ifCond .eq 78, 3) := by decide +kernel
theorem dX12_readMan_145 : decode cX12_readMan 145 = .ok (.aload_n 0, 1) := by decide +kernel
theorem dX12_readMan_146 : decode cX12_readMan 146 = .ok (.invokevirtual 134, 3) := by decide +kernel
theorem dX12_readMan_149 : decode cX12_readMan 149 = .ok (.bipush 97, 2) := by decide +kernel
theorem dX12_readMan_151 : decode cX12_readMan 151 = .ok (.isub, 1) := by decide +kernel
theorem dX12_readMan_152 : decode cX12_readMan 152 = .ok (.istore 5, 2) := by decide +kernel
theorem dX12_readMan_154 : decode cX12_readMan 154 = .ok (.iload 5, 2) := by decide +kernel
theorem dX12_readMan_156 : decode cX12_readMan 156 = .ok (.iload 4, 2) := by decide +kernel
theorem dX12_readMan_158 : decode cX12_readMan 158 = .ok (.if_icmp .le 12, 3) := by decide +kernel
theorem dX12_readMan_161 : decode cX12_readMan 161 = .ok (.iload_n 3, 1) := by decide +kernel
theorem dX12_readMan_162 : decode cX12_readMan 162 = .ok (.iload 5, 2) := by decide +kernel
theorem dX12_readMan_164 : decode cX12_readMan 164 = .ok (.invokestatic 158, 3) := by decide +kernel
theorem dX12_readMan_167 : decode cX12_readMan 167 = .ok (.ifCond .eq 14, 3) := by decide +kernel
theorem dX12_readMan_170 : decode cX12_readMan 170 = .ok (.aload_n 0, 1) := by decide +kernel
theorem dX12_readMan_171 : decode cX12_readMan 171 = .ok (.aload_n 0, 1) := by decide +kernel
theorem dX12_readMan_172 : decode cX12_readMan 172 = .ok (.getfield 120, 3) := by decide +kernel
theorem dX12_readMan_175 : decode cX12_readMan 175 = .ok (.invokevirtual 142, 3) := by decide +kernel
theorem dX12_readMan_178 : decode cX12_readMan 178 = .ok (.goto 39, 3) := by decide +kernel
theorem dX12_readMan_181 : decode cX12_readMan 181 = .ok (.aload_n 0, 1) := by decide +kernel
theorem dX12_readMan_182 : decode cX12_readMan 182 = .ok (.dup, 1) := by decide +kernel
theorem dX12_readMan_183 : decode cX12_readMan 183 = .ok (.getfield 120, 3) := by decide +kernel
theorem dX12_readMan_186 : decode cX12_readMan 186 = .ok (.iconst 1, 1) := by decide +kernel
theorem dX12_readMan_187 : decode cX12_readMan 187 = .ok (.iadd, 1) := by decide +kernel
theorem dX12_readMan_188 : decode cX12_readMan 188 = .ok (.putfield 120, 3) := by decide +kernel
theorem dX12_readMan_191 : decode cX12_readMan 191 = .ok (.aload_n 0, 1) := by decide +kernel
theorem dX12_readMan_192 : decode cX12_readMan 192 = .ok (.getfield 53, 3) := by decide +kernel
theorem dX12_readMan_195 : decode cX12_readMan 195 = .ok (.iload_n 1, 1) := by decide +kernel
theorem dX12_readMan_196 : decode cX12_readMan 196 = .ok (.iconst 4, 1) := by decide +kernel
theorem dX12_readMan_197 : decode cX12_readMan 197 = .ok (.iadd, 1) := by decide +kernel
theorem dX12_readMan_198 : decode cX12_readMan 198 = .ok (.dup2, 1) := by decide +kernel
theorem dX12_readMan_199 : decode cX12_readMan 199 = .ok (.iaload, 1) := by decide +kernel
theorem dX12_readMan_200 : decode cX12_readMan 200 = .ok (.iconst 1, 1) := by decide +kernel
theorem dX12_readMan_201 : decode cX12_readMan 201 = .ok (.iload 5, 2) := by decide +kernel
theorem dX12_readMan_203 : decode cX12_readMan 203 = .ok (.ishl, 1) := by decide +kernel
theorem dX12_readMan_204 : decode cX12_readMan 204 = .ok (.ior, 1) := by decide +kernel
theorem dX12_readMan_205 : decode cX12_readMan 205 = .ok (.iastore, 1) := by decide +kernel
theorem dX12_readMan_206 : decode cX12_readMan 206 = .ok (.iload_n 3, 1) := by decide +kernel
theorem dX12_readMan_207 : decode cX12_readMan 207 = .ok (.iconst 1, 1) := by decide +kernel
theorem dX12_readMan_208 : decode cX12_readMan 208 = .ok (.iload 5, 2) := by decide +kernel
theorem dX12_readMan_210 : decode cX12_readMan 210 = .ok (.ishl, 1) := by decide +kernel
theorem dX12_readMan_211 : decode cX12_readMan 211 = .ok (.ior, 1) := by decide +kernel
theorem dX12_readMan_212 : decode cX12_readMan 212 = .ok (.istore_n 3, 1) := by decide +kernel
theorem dX12_readMan_213 : decode cX12_readMan 213 = .ok (.iload 5, 2) := by decide +kernel
theorem dX12_readMan_215 : decode cX12_readMan 215 = .ok (.istore 4, 2) := by decide +kernel
theorem dX12_readMan_217 : decode cX12_readMan 217 = .ok (.goto (-93), 3) := by decide +kernel
theorem dX12_readMan_220 : decode cX12_readMan 220 = .ok (.iload_n 3, 1) := by decide +kernel
theorem dX12_readMan_221 : decode cX12_readMan 221 = .ok (.ireturn, 1) := by decide +kernel
theorem dX12_wasRight_0 : decode cX12_wasRight 0 = .ok (.aload_n 0, 1) := by decide +kernel
theorem dX12_wasRight_1 : decode cX12_wasRight 1 = .ok (.getfield 120, 3) := by decide +kernel
theorem dX12_wasRight_4 : decode cX12_wasRight 4 = .ok (.aload_n 0, 1) := by decide +kernel
theorem dX12_wasRight_5 : decode cX12_wasRight 5 = .ok (.getfield 114, 3) := by decide +kernel
theorem dX12_wasRight_8 : decode cX12_wasRight 8 = .ok (.if_icmp .ge 11, 3) := by decide +kernel
theorem dX12_wasRight_11 : decode cX12_wasRight 11 = .ok (.aload_n 0, 1) := by decide +kernel
theorem dX12_wasRight_12 : decode cX12_wasRight 12 = .ok (.aload_n 0, 1) := by decide +kernel
theorem dX12_wasRight_13 : decode cX12_wasRight 13 = .ok (.getfield 120, 3) := by decide +kernel
theorem dX12_wasRight_16 : decode cX12_wasRight 16 = .ok (.invokevirtual 142, 3) := by decide +kernel
theorem dX12_wasRight_19 : decode cX12_wasRight 19 = .ok (.aload_n 0, 1) := by decide +kernel
theorem dX12_wasRight_20 : decode cX12_wasRight 20 = .ok (.invokevirtual 130, 3) := by decide +kernel
theorem dX12_wasRight_23 : decode cX12_wasRight 23 = .ok (.ireturn, 1) := by decide +kernel
theorem dX12_prisoners_0 : decode cX12_prisoners 0 = .ok (.aload_n 0, 1) := by decide +kernel
theorem dX12_prisoners_1 : decode cX12_prisoners 1 = .ok (.iconst 0, 1) := by decide +kernel
theorem dX12_prisoners_2 : decode cX12_prisoners 2 = .ok (.putfield 95, 3) := by decide +kernel
theorem dX12_prisoners_5 : decode cX12_prisoners 5 = .ok (.aload_n 0, 1) := by decide +kernel
theorem dX12_prisoners_6 : decode cX12_prisoners 6 = .ok (.bipush 76, 2) := by decide +kernel
theorem dX12_prisoners_8 : decode cX12_prisoners 8 = .ok (.invokevirtual 162, 3) := by decide +kernel
theorem dX12_prisoners_11 : decode cX12_prisoners 11 = .ok (.aload_n 0, 1) := by decide +kernel
theorem dX12_prisoners_12 : decode cX12_prisoners 12 = .ok (.getfield 114, 3) := by decide +kernel
theorem dX12_prisoners_15 : decode cX12_prisoners 15 = .ok (.ifCond .ne 5, 3) := by decide +kernel
theorem dX12_prisoners_18 : decode cX12_prisoners 18 = .ok (.iconst 0, 1) := by decide +kernel
theorem dX12_prisoners_19 : decode cX12_prisoners 19 = .ok (.ireturn, 1) := by decide +kernel
theorem dX12_prisoners_20 : decode cX12_prisoners 20 = .ok (.iconst 0, 1) := by decide +kernel
theorem dX12_prisoners_21 : decode cX12_prisoners 21 = .ok (.istore_n 1, 1) := by decide +kernel
theorem dX12_prisoners_22 : decode cX12_prisoners 22 = .ok (.aload_n 0, 1) := by decide +kernel
theorem dX12_prisoners_23 : decode cX12_prisoners 23 = .ok (.invokevirtual 165, 3) := by decide +kernel
theorem dX12_prisoners_26 : decode cX12_prisoners 26 = .ok (.istore_n 2, 1) := by decide +kernel
theorem dX12_prisoners_27 : decode cX12_prisoners 27 = .ok (.iconst 1, 1) := by decide +kernel
theorem dX12_prisoners_28 : decode cX12_prisoners 28 = .ok (.istore_n 3, 1) := by decide +kernel
theorem dX12_prisoners_29 : decode cX12_prisoners 29 = .ok (.iload_n 3, 1) := by decide +kernel
theorem dX12_prisoners_30 : decode cX12_prisoners 30 = .ok (.ifCond .eq 54, 3) := by decide +kernel
theorem dX12_prisoners_33 : decode cX12_prisoners 33 = .ok (.aload_n 0, 1) := by decide +kernel
theorem dX12_prisoners_34 : decode cX12_prisoners 34 = .ok (.invokevirtual 130, 3) := by decide +kernel
theorem dX12_prisoners_37 : decode cX12_prisoners 37 = .ok (.ifCond .eq 47, 3) := by decide +kernel
theorem dX12_prisoners_40 : decode cX12_prisoners 40 = .ok (.aload_n 0, 1) := by decide +kernel
theorem dX12_prisoners_41 : decode cX12_prisoners 41 = .ok (.getfield 101, 3) := by decide +kernel
theorem dX12_prisoners_44 : decode cX12_prisoners 44 = .ok (.iload_n 1, 1) := by decide +kernel
theorem dX12_prisoners_45 : decode cX12_prisoners 45 = .ok (.iadd, 1) := by decide +kernel
theorem dX12_prisoners_46 : decode cX12_prisoners 46 = .ok (.bipush 6, 2) := by decide +kernel
theorem dX12_prisoners_48 : decode cX12_prisoners 48 = .ok (.if_icmp .ne 14, 3) := by decide +kernel
theorem dX12_prisoners_51 : decode cX12_prisoners 51 = .ok (.aload_n 0, 1) := by decide +kernel
theorem dX12_prisoners_52 : decode cX12_prisoners 52 = .ok (.aload_n 0, 1) := by decide +kernel
theorem dX12_prisoners_53 : decode cX12_prisoners 53 = .ok (.getfield 120, 3) := by decide +kernel
theorem dX12_prisoners_56 : decode cX12_prisoners 56 = .ok (.invokevirtual 142, 3) := by decide +kernel
theorem dX12_prisoners_59 : decode cX12_prisoners 59 = .ok (.goto 12, 3) := by decide +kernel
theorem dX12_prisoners_62 : decode cX12_prisoners 62 = .ok (.aload_n 0, 1) := by decide +kernel
theorem dX12_prisoners_63 : decode cX12_prisoners 63 = .ok (.iconst 5, 1) := by decide +kernel
theorem dX12_prisoners_64 : decode cX12_prisoners 64 = .ok (.iload_n 1, 1) := by decide +kernel
theorem dX12_prisoners_65 : decode cX12_prisoners 65 = .ok (.imul, 1) := by decide +kernel
theorem dX12_prisoners_66 : decode cX12_prisoners 66 = .ok (.iload_n 2, 1) := by decide +kernel
theorem dX12_prisoners_67 : decode cX12_prisoners 67 = .ok (.invokevirtual 168, 3) := by decide +kernel
theorem dX12_prisoners_70 : decode cX12_prisoners 70 = .ok (.istore_n 2, 1) := by decide +kernel
theorem dX12_prisoners_71 : decode cX12_prisoners 71 = .ok (.iinc 1 1, 3) := by decide +kernel
theorem dX12_prisoners_74 : decode cX12_prisoners 74 = .ok (.aload_n 0, 1) := by decide +kernel
theorem dX12_prisoners_75 : decode cX12_prisoners 75 = .ok (.bipush 59, 2) := by decide +kernel
theorem dX12_prisoners_77 : decode cX12_prisoners 77 = .ok (.invokevirtual 138, 3) := by decide +kernel
theorem dX12_prisoners_80 : decode cX12_prisoners 80 = .ok (.istore_n 3, 1) := by decide +kernel
theorem dX12_prisoners_81 : decode cX12_prisoners 81 = .ok (.goto (-52), 3) := by decide +kernel
theorem dX12_prisoners_84 : decode cX12_prisoners 84 = .ok (.aload_n 0, 1) := by decide +kernel
theorem dX12_prisoners_85 : decode cX12_prisoners 85 = .ok (.invokevirtual 172, 3) := by decide +kernel
theorem dX12_prisoners_88 : decode cX12_prisoners 88 = .ok (.ifCond .ne 10, 3) := by decide +kernel
theorem dX12_prisoners_91 : decode cX12_prisoners 91 = .ok (.iconst (-1), 1) := by decide +kernel
theorem dX12_prisoners_92 : decode cX12_prisoners 92 = .ok (.aload_n 0, 1) := by decide +kernel
theorem dX12_prisoners_93 : decode cX12_prisoners 93 = .ok (.getfield 123, 3) := by decide +kernel
theorem dX12_prisoners_96 : decode cX12_prisoners 96 = .ok (.isub, 1) := by decide +kernel
theorem dX12_prisoners_97 : decode cX12_prisoners 97 = .ok (.ireturn, 1) := by decide +kernel
theorem dX12_prisoners_98 : decode cX12_prisoners 98 = .ok (.iconst 0, 1) := by decide +kernel
theorem dX12_prisoners_99 : decode cX12_prisoners 99 = .ok (.istore 4, 2) := by decide +kernel
theorem dX12_prisoners_101 : decode cX12_prisoners 101 = .ok (.iload 4, 2) := by decide +kernel
theorem dX12_prisoners_103 : decode cX12_prisoners 103 = .ok (.iload_n 1, 1) := by decide +kernel
theorem dX12_prisoners_104 : decode cX12_prisoners 104 = .ok (.if_icmp .ge 162, 3) := by decide +kernel
theorem dX12_prisoners_107 : decode cX12_prisoners 107 = .ok (.aload_n 0, 1) := by decide +kernel
theorem dX12_prisoners_108 : decode cX12_prisoners 108 = .ok (.getfield 13, 3) := by decide +kernel
theorem dX12_prisoners_111 : decode cX12_prisoners 111 = .ok (.aload_n 0, 1) := by decide +kernel
theorem dX12_prisoners_112 : decode cX12_prisoners 112 = .ok (.getfield 101, 3) := by decide +kernel
theorem dX12_prisoners_115 : decode cX12_prisoners 115 = .ok (.aload_n 0, 1) := by decide +kernel
theorem dX12_prisoners_116 : decode cX12_prisoners 116 = .ok (.getfield 53, 3) := by decide +kernel
theorem dX12_prisoners_119 : decode cX12_prisoners 119 = .ok (.iconst 5, 1) := by decide +kernel
theorem dX12_prisoners_120 : decode cX12_prisoners 120 = .ok (.iload 4, 2) := by decide +kernel
theorem dX12_prisoners_122 : decode cX12_prisoners 122 = .ok (.imul, 1) := by decide +kernel
theorem dX12_prisoners_123 : decode cX12_prisoners 123 = .ok (.iaload, 1) := by decide +kernel
theorem dX12_prisoners_124 : decode cX12_prisoners 124 = .ok (.iastore, 1) := by decide +kernel
theorem dX12_prisoners_125 : decode cX12_prisoners 125 = .ok (.aload_n 0, 1) := by decide +kernel
theorem dX12_prisoners_126 : decode cX12_prisoners 126 = .ok (.getfield 16, 3) := by decide +kernel
theorem dX12_prisoners_129 : decode cX12_prisoners 129 = .ok (.aload_n 0, 1) := by decide +kernel
theorem dX12_prisoners_130 : decode cX12_prisoners 130 = .ok (.getfield 101, 3) := by decide +kernel
theorem dX12_prisoners_133 : decode cX12_prisoners 133 = .ok (.aload_n 0, 1) := by decide +kernel
theorem dX12_prisoners_134 : decode cX12_prisoners 134 = .ok (.getfield 53, 3) := by decide +kernel
theorem dX12_prisoners_137 : decode cX12_prisoners 137 = .ok (.iconst 5, 1) := by decide +kernel
theorem dX12_prisoners_138 : decode cX12_prisoners 138 = .ok (.iload 4, 2) := by decide +kernel
theorem dX12_prisoners_140 : decode cX12_prisoners 140 = .ok (.imul, 1) := by decide +kernel
theorem dX12_prisoners_141 : decode cX12_prisoners 141 = .ok (.iconst 1, 1) := by decide +kernel
theorem dX12_prisoners_142 : decode cX12_prisoners 142 = .ok (.iadd, 1) := by decide +kernel
theorem dX12_prisoners_143 : decode cX12_prisoners 143 = .ok (.iaload, 1) := by decide +kernel
theorem dX12_prisoners_144 : decode cX12_prisoners 144 = .ok (.iastore, 1) := by decide +kernel
theorem dX12_prisoners_145 : decode cX12_prisoners 145 = .ok (.aload_n 0, 1) := by decide +kernel
theorem dX12_prisoners_146 : decode cX12_prisoners 146 = .ok (.getfield 19, 3) := by decide +kernel
theorem dX12_prisoners_149 : decode cX12_prisoners 149 = .ok (.aload_n 0, 1) := by decide +kernel
theorem dX12_prisoners_150 : decode cX12_prisoners 150 = .ok (.getfield 101, 3) := by decide +kernel
theorem dX12_prisoners_153 : decode cX12_prisoners 153 = .ok (.aload_n 0, 1) := by decide +kernel
theorem dX12_prisoners_154 : decode cX12_prisoners 154 = .ok (.getfield 53, 3) := by decide +kernel
theorem dX12_prisoners_157 : decode cX12_prisoners 157 = .ok (.iconst 5, 1) := by decide +kernel
theorem dX12_prisoners_158 : decode cX12_prisoners 158 = .ok (.iload 4, 2) := by decide +kernel
theorem dX12_prisoners_160 : decode cX12_prisoners 160 = .ok (.imul, 1) := by decide +kernel
theorem dX12_prisoners_161 : decode cX12_prisoners 161 = .ok (.iconst 2, 1) := by decide +kernel
theorem dX12_prisoners_162 : decode cX12_prisoners 162 = .ok (.iadd, 1) := by decide +kernel
theorem dX12_prisoners_163 : decode cX12_prisoners 163 = .ok (.iaload, 1) := by decide +kernel
theorem dX12_prisoners_164 : decode cX12_prisoners 164 = .ok (.iconst 1, 1) := by decide +kernel
theorem dX12_prisoners_165 : decode cX12_prisoners 165 = .ok (.if_icmp .ne 7, 3) := by decide +kernel
theorem dX12_prisoners_168 : decode cX12_prisoners 168 = .ok (.iconst 1, 1) := by decide +kernel
theorem dX12_prisoners_169 : decode cX12_prisoners 169 = .ok (.goto 4, 3) := by decide +kernel
theorem dX12_prisoners_172 : decode cX12_prisoners 172 = .ok (.iconst 0, 1) := by decide +kernel
theorem dX12_prisoners_173 : decode cX12_prisoners 173 = .ok (.bastore, 1) := by decide +kernel
theorem dX12_prisoners_174 : decode cX12_prisoners 174 = .ok (.aload_n 0, 1) := by decide +kernel
theorem dX12_prisoners_175 : decode cX12_prisoners 175 = .ok (.getfield 23, 3) := by decide +kernel
theorem dX12_prisoners_178 : decode cX12_prisoners 178 = .ok (.aload_n 0, 1) := by decide +kernel
theorem dX12_prisoners_179 : decode cX12_prisoners 179 = .ok (.getfield 101, 3) := by decide +kernel
theorem dX12_prisoners_182 : decode cX12_prisoners 182 = .ok (.aload_n 0, 1) := by decide +kernel
theorem dX12_prisoners_183 : decode cX12_prisoners 183 = .ok (.getfield 53, 3) := by decide +kernel
theorem dX12_prisoners_186 : decode cX12_prisoners 186 = .ok (.iconst 5, 1) := by decide +kernel
theorem dX12_prisoners_187 : decode cX12_prisoners 187 = .ok (.iload 4, 2) := by decide +kernel
theorem dX12_prisoners_189 : decode cX12_prisoners 189 = .ok (.imul, 1) := by decide +kernel
theorem dX12_prisoners_190 : decode cX12_prisoners 190 = .ok (.iconst 3, 1) := by decide +kernel
theorem dX12_prisoners_191 : decode cX12_prisoners 191 = .ok (.iadd, 1) := by decide +kernel
theorem dX12_prisoners_192 : decode cX12_prisoners 192 = .ok (.iaload, 1) := by decide +kernel
theorem dX12_prisoners_193 : decode cX12_prisoners 193 = .ok (.iastore, 1) := by decide +kernel
theorem dX12_prisoners_194 : decode cX12_prisoners 194 = .ok (.aload_n 0, 1) := by decide +kernel
theorem dX12_prisoners_195 : decode cX12_prisoners 195 = .ok (.getfield 26, 3) := by decide +kernel
theorem dX12_prisoners_198 : decode cX12_prisoners 198 = .ok (.aload_n 0, 1) := by decide +kernel
theorem dX12_prisoners_199 : decode cX12_prisoners 199 = .ok (.getfield 101, 3) := by decide +kernel
theorem dX12_prisoners_202 : decode cX12_prisoners 202 = .ok (.aload_n 0, 1) := by decide +kernel
theorem dX12_prisoners_203 : decode cX12_prisoners 203 = .ok (.getfield 53, 3) := by decide +kernel
theorem dX12_prisoners_206 : decode cX12_prisoners 206 = .ok (.iconst 5, 1) := by decide +kernel
theorem dX12_prisoners_207 : decode cX12_prisoners 207 = .ok (.iload 4, 2) := by decide +kernel
theorem dX12_prisoners_209 : decode cX12_prisoners 209 = .ok (.imul, 1) := by decide +kernel
theorem dX12_prisoners_210 : decode cX12_prisoners 210 = .ok (.iconst 4, 1) := by decide +kernel
theorem dX12_prisoners_211 : decode cX12_prisoners 211 = .ok (.iadd, 1) := by decide +kernel
theorem dX12_prisoners_212 : decode cX12_prisoners 212 = .ok (.iaload, 1) := by decide +kernel
theorem dX12_prisoners_213 : decode cX12_prisoners 213 = .ok (.iastore, 1) := by decide +kernel
theorem dX12_prisoners_214 : decode cX12_prisoners 214 = .ok (.aload_n 0, 1) := by decide +kernel
theorem dX12_prisoners_215 : decode cX12_prisoners 215 = .ok (.getfield 9, 3) := by decide +kernel
theorem dX12_prisoners_218 : decode cX12_prisoners 218 = .ok (.aload_n 0, 1) := by decide +kernel
theorem dX12_prisoners_219 : decode cX12_prisoners 219 = .ok (.getfield 101, 3) := by decide +kernel
theorem dX12_prisoners_222 : decode cX12_prisoners 222 = .ok (.iconst 0, 1) := by decide +kernel
theorem dX12_prisoners_223 : decode cX12_prisoners 223 = .ok (.iastore, 1) := by decide +kernel
theorem dX12_prisoners_224 : decode cX12_prisoners 224 = .ok (.aload_n 0, 1) := by decide +kernel
theorem dX12_prisoners_225 : decode cX12_prisoners 225 = .ok (.getfield 9, 3) := by decide +kernel
theorem dX12_prisoners_228 : decode cX12_prisoners 228 = .ok (.bipush 6, 2) := by decide +kernel
theorem dX12_prisoners_230 : decode cX12_prisoners 230 = .ok (.aload_n 0, 1) := by decide +kernel
theorem dX12_prisoners_231 : decode cX12_prisoners 231 = .ok (.getfield 101, 3) := by decide +kernel
theorem dX12_prisoners_234 : decode cX12_prisoners 234 = .ok (.iadd, 1) := by decide +kernel
theorem dX12_prisoners_235 : decode cX12_prisoners 235 = .ok (.iconst 0, 1) := by decide +kernel
theorem dX12_prisoners_236 : decode cX12_prisoners 236 = .ok (.iastore, 1) := by decide +kernel
theorem dX12_prisoners_237 : decode cX12_prisoners 237 = .ok (.aload_n 0, 1) := by decide +kernel
theorem dX12_prisoners_238 : decode cX12_prisoners 238 = .ok (.getfield 9, 3) := by decide +kernel
theorem dX12_prisoners_241 : decode cX12_prisoners 241 = .ok (.bipush 12, 2) := by decide +kernel
theorem dX12_prisoners_243 : decode cX12_prisoners 243 = .ok (.aload_n 0, 1) := by decide +kernel
theorem dX12_prisoners_244 : decode cX12_prisoners 244 = .ok (.getfield 101, 3) := by decide +kernel
theorem dX12_prisoners_247 : decode cX12_prisoners 247 = .ok (.iadd, 1) := by decide +kernel
theorem dX12_prisoners_248 : decode cX12_prisoners 248 = .ok (.iconst 0, 1) := by decide +kernel
theorem dX12_prisoners_249 : decode cX12_prisoners 249 = .ok (.iastore, 1) := by decide +kernel
theorem dX12_prisoners_250 : decode cX12_prisoners 250 = .ok (.aload_n 0, 1) := by decide +kernel
theorem dX12_prisoners_251 : decode cX12_prisoners 251 = .ok (.dup, 1) := by decide +kernel
theorem dX12_prisoners_252 : decode cX12_prisoners 252 = .ok (.getfield 101, 3) := by decide +kernel
theorem dX12_prisoners_255 : decode cX12_prisoners 255 = .ok (.iconst 1, 1) := by decide +kernel
theorem dX12_prisoners_256 : decode cX12_prisoners 256 = .ok (.iadd, 1) := by decide +kernel
theorem dX12_prisoners_257 : decode cX12_prisoners 257 = .ok (.putfield 101, 3) := by decide +kernel
theorem dX12_prisoners_260 : decode cX12_prisoners 260 = .ok (.iinc 4 1, 3) := by decide +kernel
theorem dX12_prisoners_263 : decode cX12_prisoners 263 = .ok (.goto (-162), 3) := by decide +kernel
theorem dX12_prisoners_266 : decode cX12_prisoners 266 = .ok (.aload_n 0, 1) := by decide +kernel
theorem dX12_prisoners_267 : decode cX12_prisoners 267 = .ok (.iconst 0, 1) := by decide +kernel
theorem dX12_prisoners_268 : decode cX12_prisoners 268 = .ok (.putfield 175, 3) := by decide +kernel
theorem dX12_prisoners_271 : decode cX12_prisoners 271 = .ok (.aload_n 0, 1) := by decide +kernel
theorem dX12_prisoners_272 : decode cX12_prisoners 272 = .ok (.dup, 1) := by decide +kernel
theorem dX12_prisoners_273 : decode cX12_prisoners 273 = .ok (.getfield 178, 3) := by decide +kernel
theorem dX12_prisoners_276 : decode cX12_prisoners 276 = .ok (.iconst 1, 1) := by decide +kernel
theorem dX12_prisoners_277 : decode cX12_prisoners 277 = .ok (.iadd, 1) := by decide +kernel
theorem dX12_prisoners_278 : decode cX12_prisoners 278 = .ok (.putfield 178, 3) := by decide +kernel
theorem dX12_prisoners_281 : decode cX12_prisoners 281 = .ok (.iload_n 1, 1) := by decide +kernel
theorem dX12_prisoners_282 : decode cX12_prisoners 282 = .ok (.ireturn, 1) := by decide +kernel
theorem dX2_readValues_0 : decode cX2_readValues 0 = .ok (.aload_n 1, 1) := by decide +kernel
theorem dX2_readValues_1 : decode cX2_readValues 1 = .ok (.bipush 80, 2) := by decide +kernel
theorem dX2_readValues_3 : decode cX2_readValues 3 = .ok (.invokevirtual 30, 3) := by decide +kernel
theorem dX2_readValues_6 : decode cX2_readValues 6 = .ok (.iconst 0, 1) := by decide +kernel
theorem dX2_readValues_7 : decode cX2_readValues 7 = .ok (.istore_n 2, 1) := by decide +kernel
theorem dX2_readValues_8 : decode cX2_readValues 8 = .ok (.iconst 0, 1) := by decide +kernel
theorem dX2_readValues_9 : decode cX2_readValues 9 = .ok (.istore_n 3, 1) := by decide +kernel
theorem dX2_readValues_10 : decode cX2_readValues 10 = .ok (.iload_n 3, 1) := by decide +kernel
theorem dX2_readValues_11 : decode cX2_readValues 11 = .ok (.bipush 8, 2) := by decide +kernel
theorem dX2_readValues_13 : decode cX2_readValues 13 = .ok (.if_icmp .ge 61, 3) := by decide +kernel
theorem dX2_readValues_16 : decode cX2_readValues 16 = .ok (.iload_n 3, 1) := by decide +kernel
theorem dX2_readValues_17 : decode cX2_readValues 17 = .ok (.ifCond .le 17, 3) := by decide +kernel
theorem dX2_readValues_20 : decode cX2_readValues 20 = .ok (.aload_n 1, 1) := by decide +kernel
theorem dX2_readValues_21 : decode cX2_readValues 21 = .ok (.bipush 44, 2) := by decide +kernel
theorem dX2_readValues_23 : decode cX2_readValues 23 = .ok (.invokevirtual 34, 3) := by decide +kernel
theorem dX2_readValues_26 : decode cX2_readValues 26 = .ok (.ifCond .ne 8, 3) := by decide +kernel
theorem dX2_readValues_29 : decode cX2_readValues 29 = .ok (.aload_n 1, 1) := by decide +kernel
theorem dX2_readValues_30 : decode cX2_readValues 30 = .ok (.invokevirtual 38, 3) := by decide +kernel
theorem dX2_readValues_33 : decode cX2_readValues 33 = .ok (.ireturn, 1) := by decide +kernel
theorem dX2_readValues_34 : decode cX2_readValues 34 = .ok (.aload_n 0, 1) := by decide +kernel
theorem dX2_readValues_35 : decode cX2_readValues 35 = .ok (.getfield 21, 3) := by decide +kernel
theorem dX2_readValues_38 : decode cX2_readValues 38 = .ok (.iload_n 3, 1) := by decide +kernel
theorem dX2_readValues_39 : decode cX2_readValues 39 = .ok (.aload_n 1, 1) := by decide +kernel
theorem dX2_readValues_40 : decode cX2_readValues 40 = .ok (.iconst 2, 1) := by decide +kernel
theorem dX2_readValues_41 : decode cX2_readValues 41 = .ok (.invokevirtual 42, 3) := by decide +kernel
theorem dX2_readValues_44 : decode cX2_readValues 44 = .ok (.iastore, 1) := by decide +kernel
theorem dX2_readValues_45 : decode cX2_readValues 45 = .ok (.aload_n 0, 1) := by decide +kernel
theorem dX2_readValues_46 : decode cX2_readValues 46 = .ok (.getfield 21, 3) := by decide +kernel
theorem dX2_readValues_49 : decode cX2_readValues 49 = .ok (.iload_n 3, 1) := by decide +kernel
theorem dX2_readValues_50 : decode cX2_readValues 50 = .ok (.iaload, 1) := by decide +kernel
theorem dX2_readValues_51 : decode cX2_readValues 51 = .ok (.ifCond .ge 8, 3) := by decide +kernel
theorem dX2_readValues_54 : decode cX2_readValues 54 = .ok (.aload_n 1, 1) := by decide +kernel
theorem dX2_readValues_55 : decode cX2_readValues 55 = .ok (.invokevirtual 38, 3) := by decide +kernel
theorem dX2_readValues_58 : decode cX2_readValues 58 = .ok (.ireturn, 1) := by decide +kernel
theorem dX2_readValues_59 : decode cX2_readValues 59 = .ok (.iload_n 2, 1) := by decide +kernel
theorem dX2_readValues_60 : decode cX2_readValues 60 = .ok (.aload_n 0, 1) := by decide +kernel
theorem dX2_readValues_61 : decode cX2_readValues 61 = .ok (.getfield 21, 3) := by decide +kernel
theorem dX2_readValues_64 : decode cX2_readValues 64 = .ok (.iload_n 3, 1) := by decide +kernel
theorem dX2_readValues_65 : decode cX2_readValues 65 = .ok (.iaload, 1) := by decide +kernel
theorem dX2_readValues_66 : decode cX2_readValues 66 = .ok (.iadd, 1) := by decide +kernel
theorem dX2_readValues_67 : decode cX2_readValues 67 = .ok (.istore_n 2, 1) := by decide +kernel
theorem dX2_readValues_68 : decode cX2_readValues 68 = .ok (.iinc 3 1, 3) := by decide +kernel
theorem dX2_readValues_71 : decode cX2_readValues 71 = .ok (.goto (-61), 3) := by decide +kernel
theorem dX2_readValues_74 : decode cX2_readValues 74 = .ok (.aload_n 1, 1) := by decide +kernel
theorem dX2_readValues_75 : decode cX2_readValues 75 = .ok (.invokevirtual 46, 3) := by decide +kernel
theorem dX2_readValues_78 : decode cX2_readValues 78 = .ok (.ifCond .ne 8, 3) := by decide +kernel
theorem dX2_readValues_81 : decode cX2_readValues 81 = .ok (.aload_n 1, 1) := by decide +kernel
theorem dX2_readValues_82 : decode cX2_readValues 82 = .ok (.invokevirtual 38, 3) := by decide +kernel
theorem dX2_readValues_85 : decode cX2_readValues 85 = .ok (.ireturn, 1) := by decide +kernel
theorem dX2_readValues_86 : decode cX2_readValues 86 = .ok (.aload_n 0, 1) := by decide +kernel
theorem dX2_readValues_87 : decode cX2_readValues 87 = .ok (.getfield 21, 3) := by decide +kernel
theorem dX2_readValues_90 : decode cX2_readValues 90 = .ok (.iconst 0, 1) := by decide +kernel
theorem dX2_readValues_91 : decode cX2_readValues 91 = .ok (.aload_n 0, 1) := by decide +kernel
theorem dX2_readValues_92 : decode cX2_readValues 92 = .ok (.getfield 18, 3) := by decide +kernel
theorem dX2_readValues_95 : decode cX2_readValues 95 = .ok (.iconst 0, 1) := by decide +kernel
theorem dX2_readValues_96 : decode cX2_readValues 96 = .ok (.bipush 8, 2) := by decide +kernel
theorem dX2_readValues_98 : decode cX2_readValues 98 = .ok (.invokestatic 50, 3) := by decide +kernel
theorem dX2_readValues_101 : decode cX2_readValues 101 = .ok (.iload_n 2, 1) := by decide +kernel
theorem dX2_readValues_102 : decode cX2_readValues 102 = .ok (.ireturn, 1) := by decide +kernel
theorem dX11_values_0 : decode cX11_values 0 = .ok (.aload_n 0, 1) := by decide +kernel
theorem dX11_values_1 : decode cX11_values 1 = .ok (.getfield 56, 3) := by decide +kernel
theorem dX11_values_4 : decode cX11_values 4 = .ok (.aload_n 0, 1) := by decide +kernel
theorem dX11_values_5 : decode cX11_values 5 = .ok (.getfield 10, 3) := by decide +kernel
theorem dX11_values_8 : decode cX11_values 8 = .ok (.invokevirtual 129, 3) := by decide +kernel
theorem dX11_values_11 : decode cX11_values 11 = .ok (.istore_n 1, 1) := by decide +kernel
theorem dX11_values_12 : decode cX11_values 12 = .ok (.aload_n 0, 1) := by decide +kernel
theorem dX11_values_13 : decode cX11_values 13 = .ok (.getfield 10, 3) := by decide +kernel
theorem dX11_values_16 : decode cX11_values 16 = .ok (.invokevirtual 116, 3) := by decide +kernel
theorem dX11_values_19 : decode cX11_values 19 = .ok (.iload_n 1, 1) := by decide +kernel
theorem dX11_values_20 : decode cX11_values 20 = .ok (.ireturn, 1) := by decide +kernel
theorem dX12_values_0 : decode cX12_values 0 = .ok (.aload_n 0, 1) := by decide +kernel
theorem dX12_values_1 : decode cX12_values 1 = .ok (.iconst 0, 1) := by decide +kernel
theorem dX12_values_2 : decode cX12_values 2 = .ok (.putfield 95, 3) := by decide +kernel
theorem dX12_values_5 : decode cX12_values 5 = .ok (.aload_n 0, 1) := by decide +kernel
theorem dX12_values_6 : decode cX12_values 6 = .ok (.bipush 80, 2) := by decide +kernel
theorem dX12_values_8 : decode cX12_values 8 = .ok (.invokevirtual 162, 3) := by decide +kernel
theorem dX12_values_11 : decode cX12_values 11 = .ok (.iconst 0, 1) := by decide +kernel
theorem dX12_values_12 : decode cX12_values 12 = .ok (.istore_n 1, 1) := by decide +kernel
theorem dX12_values_13 : decode cX12_values 13 = .ok (.iconst 0, 1) := by decide +kernel
theorem dX12_values_14 : decode cX12_values 14 = .ok (.istore_n 2, 1) := by decide +kernel
theorem dX12_values_15 : decode cX12_values 15 = .ok (.iload_n 2, 1) := by decide +kernel
theorem dX12_values_16 : decode cX12_values 16 = .ok (.bipush 8, 2) := by decide +kernel
theorem dX12_values_18 : decode cX12_values 18 = .ok (.if_icmp .ge 39, 3) := by decide +kernel
theorem dX12_values_21 : decode cX12_values 21 = .ok (.iload_n 2, 1) := by decide +kernel
theorem dX12_values_22 : decode cX12_values 22 = .ok (.ifCond .le 9, 3) := by decide +kernel
theorem dX12_values_25 : decode cX12_values 25 = .ok (.aload_n 0, 1) := by decide +kernel
theorem dX12_values_26 : decode cX12_values 26 = .ok (.bipush 44, 2) := by decide +kernel
theorem dX12_values_28 : decode cX12_values 28 = .ok (.invokevirtual 154, 3) := by decide +kernel
theorem dX12_values_31 : decode cX12_values 31 = .ok (.aload_n 0, 1) := by decide +kernel
theorem dX12_values_32 : decode cX12_values 32 = .ok (.getfield 53, 3) := by decide +kernel
theorem dX12_values_35 : decode cX12_values 35 = .ok (.iload_n 2, 1) := by decide +kernel
theorem dX12_values_36 : decode cX12_values 36 = .ok (.aload_n 0, 1) := by decide +kernel
theorem dX12_values_37 : decode cX12_values 37 = .ok (.iconst 2, 1) := by decide +kernel
theorem dX12_values_38 : decode cX12_values 38 = .ok (.invokevirtual 150, 3) := by decide +kernel
theorem dX12_values_41 : decode cX12_values 41 = .ok (.iastore, 1) := by decide +kernel
theorem dX12_values_42 : decode cX12_values 42 = .ok (.iload_n 1, 1) := by decide +kernel
theorem dX12_values_43 : decode cX12_values 43 = .ok (.aload_n 0, 1) := by decide +kernel
theorem dX12_values_44 : decode cX12_values 44 = .ok (.getfield 53, 3) := by decide +kernel
theorem dX12_values_47 : decode cX12_values 47 = .ok (.iload_n 2, 1) := by decide +kernel
theorem dX12_values_48 : decode cX12_values 48 = .ok (.iaload, 1) := by decide +kernel
theorem dX12_values_49 : decode cX12_values 49 = .ok (.iadd, 1) := by decide +kernel
theorem dX12_values_50 : decode cX12_values 50 = .ok (.istore_n 1, 1) := by decide +kernel
theorem dX12_values_51 : decode cX12_values 51 = .ok (.iinc 2 1, 3) := by decide +kernel
theorem dX12_values_54 : decode cX12_values 54 = .ok (.goto (-39), 3) := by decide +kernel
theorem dX12_values_57 : decode cX12_values 57 = .ok (.aload_n 0, 1) := by decide +kernel
theorem dX12_values_58 : decode cX12_values 58 = .ok (.invokevirtual 172, 3) := by decide +kernel
theorem dX12_values_61 : decode cX12_values 61 = .ok (.ifCond .ne 10, 3) := by decide +kernel
theorem dX12_values_64 : decode cX12_values 64 = .ok (.iconst (-1), 1) := by decide +kernel
theorem dX12_values_65 : decode cX12_values 65 = .ok (.aload_n 0, 1) := by decide +kernel
theorem dX12_values_66 : decode cX12_values 66 = .ok (.getfield 123, 3) := by decide +kernel
theorem dX12_values_69 : decode cX12_values 69 = .ok (.isub, 1) := by decide +kernel
theorem dX12_values_70 : decode cX12_values 70 = .ok (.ireturn, 1) := by decide +kernel
theorem dX12_values_71 : decode cX12_values 71 = .ok (.iconst 0, 1) := by decide +kernel
theorem dX12_values_72 : decode cX12_values 72 = .ok (.istore_n 2, 1) := by decide +kernel
theorem dX12_values_73 : decode cX12_values 73 = .ok (.iload_n 2, 1) := by decide +kernel
theorem dX12_values_74 : decode cX12_values 74 = .ok (.bipush 8, 2) := by decide +kernel
theorem dX12_values_76 : decode cX12_values 76 = .ok (.if_icmp .ge 21, 3) := by decide +kernel
theorem dX12_values_79 : decode cX12_values 79 = .ok (.aload_n 0, 1) := by decide +kernel
theorem dX12_values_80 : decode cX12_values 80 = .ok (.getfield 29, 3) := by decide +kernel
theorem dX12_values_83 : decode cX12_values 83 = .ok (.iload_n 2, 1) := by decide +kernel
theorem dX12_values_84 : decode cX12_values 84 = .ok (.aload_n 0, 1) := by decide +kernel
theorem dX12_values_85 : decode cX12_values 85 = .ok (.getfield 53, 3) := by decide +kernel
theorem dX12_values_88 : decode cX12_values 88 = .ok (.iload_n 2, 1) := by decide +kernel
theorem dX12_values_89 : decode cX12_values 89 = .ok (.iaload, 1) := by decide +kernel
theorem dX12_values_90 : decode cX12_values 90 = .ok (.iastore, 1) := by decide +kernel
theorem dX12_values_91 : decode cX12_values 91 = .ok (.iinc 2 1, 3) := by decide +kernel
theorem dX12_values_94 : decode cX12_values 94 = .ok (.goto (-21), 3) := by decide +kernel
theorem dX12_values_97 : decode cX12_values 97 = .ok (.iload_n 1, 1) := by decide +kernel
theorem dX12_values_98 : decode cX12_values 98 = .ok (.ireturn, 1) := by decide +kernel
theorem dX4_hear_0 : decode cX4_hear 0 = .ok (.iload_n 1, 1) := by decide +kernel
theorem dX4_hear_1 : decode cX4_hear 1 = .ok (.istore_n 3, 1) := by decide +kernel
theorem dX4_hear_2 : decode cX4_hear 2 = .ok (.iload_n 3, 1) := by decide +kernel
theorem dX4_hear_3 : decode cX4_hear 3 = .ok (.iload_n 2, 1) := by decide +kernel
theorem dX4_hear_4 : decode cX4_hear 4 = .ok (.if_icmp .ge 30, 3) := by decide +kernel
theorem dX4_hear_7 : decode cX4_hear 7 = .ok (.iload_n 3, 1) := by decide +kernel
theorem dX4_hear_8 : decode cX4_hear 8 = .ok (.bipush 8, 2) := by decide +kernel
theorem dX4_hear_10 : decode cX4_hear 10 = .ok (.if_icmp .ge 24, 3) := by decide +kernel
theorem dX4_hear_13 : decode cX4_hear 13 = .ok (.aload_n 0, 1) := by decide +kernel
theorem dX4_hear_14 : decode cX4_hear 14 = .ok (.getfield 21, 3) := by decide +kernel
theorem dX4_hear_17 : decode cX4_hear 17 = .ok (.iload_n 3, 1) := by decide +kernel
theorem dX4_hear_18 : decode cX4_hear 18 = .ok (.aload_n 0, 1) := by decide +kernel
theorem dX4_hear_19 : decode cX4_hear 19 = .ok (.getfield 35, 3) := by decide +kernel
theorem dX4_hear_22 : decode cX4_hear 22 = .ok (.getfield 49, 3) := by decide +kernel
theorem dX4_hear_25 : decode cX4_hear 25 = .ok (.iload_n 3, 1) := by decide +kernel
theorem dX4_hear_26 : decode cX4_hear 26 = .ok (.iaload, 1) := by decide +kernel
theorem dX4_hear_27 : decode cX4_hear 27 = .ok (.iastore, 1) := by decide +kernel
theorem dX4_hear_28 : decode cX4_hear 28 = .ok (.iinc 3 1, 3) := by decide +kernel
theorem dX4_hear_31 : decode cX4_hear 31 = .ok (.goto (-29), 3) := by decide +kernel
theorem dX4_hear_34 : decode cX4_hear 34 = .ok (.return_, 1) := by decide +kernel
theorem dX1_readsOne_0 : decode cX1_readsOne 0 = .ok (.aload_n 0, 1) := by decide +kernel
theorem dX1_readsOne_1 : decode cX1_readsOne 1 = .ok (.getfield 21, 3) := by decide +kernel
theorem dX1_readsOne_4 : decode cX1_readsOne 4 = .ok (.iload_n 2, 1) := by decide +kernel
theorem dX1_readsOne_5 : decode cX1_readsOne 5 = .ok (.iadd, 1) := by decide +kernel
theorem dX1_readsOne_6 : decode cX1_readsOne 6 = .ok (.istore_n 3, 1) := by decide +kernel
theorem dX1_readsOne_7 : decode cX1_readsOne 7 = .ok (.iload_n 3, 1) := by decide +kernel
theorem dX1_readsOne_8 : decode cX1_readsOne 8 = .ok (.ifCond .lt 9, 3) := by decide +kernel
theorem dX1_readsOne_11 : decode cX1_readsOne 11 = .ok (.iload_n 3, 1) := by decide +kernel
theorem dX1_readsOne_12 : decode cX1_readsOne 12 = .ok (.bipush 8, 2) := by decide +kernel
theorem dX1_readsOne_14 : decode cX1_readsOne 14 = .ok (.if_icmp .lt 5, 3) := by decide +kernel
theorem dX1_readsOne_17 : decode cX1_readsOne 17 = .ok (.iconst 0, 1) := by decide +kernel
theorem dX1_readsOne_18 : decode cX1_readsOne 18 = .ok (.ireturn, 1) := by decide +kernel
theorem dX1_readsOne_19 : decode cX1_readsOne 19 = .ok (.aload_n 0, 1) := by decide +kernel
theorem dX1_readsOne_20 : decode cX1_readsOne 20 = .ok (.getfield 9, 3) := by decide +kernel
theorem dX1_readsOne_23 : decode cX1_readsOne 23 = .ok (.iload_n 3, 1) := by decide +kernel
theorem dX1_readsOne_24 : decode cX1_readsOne 24 = .ok (.aload_n 1, 1) := by decide +kernel
theorem dX1_readsOne_25 : decode cX1_readsOne 25 = .ok (.aload_n 0, 1) := by decide +kernel
theorem dX1_readsOne_26 : decode cX1_readsOne 26 = .ok (.getfield 25, 3) := by decide +kernel
theorem dX1_readsOne_29 : decode cX1_readsOne 29 = .ok (.getfield 29, 3) := by decide +kernel
theorem dX1_readsOne_32 : decode cX1_readsOne 32 = .ok (.invokevirtual 32, 3) := by decide +kernel
theorem dX1_readsOne_35 : decode cX1_readsOne 35 = .ok (.iastore, 1) := by decide +kernel
theorem dX1_readsOne_36 : decode cX1_readsOne 36 = .ok (.aload_n 0, 1) := by decide +kernel
theorem dX1_readsOne_37 : decode cX1_readsOne 37 = .ok (.getfield 9, 3) := by decide +kernel
theorem dX1_readsOne_40 : decode cX1_readsOne 40 = .ok (.iload_n 3, 1) := by decide +kernel
theorem dX1_readsOne_41 : decode cX1_readsOne 41 = .ok (.iaload, 1) := by decide +kernel
theorem dX1_readsOne_42 : decode cX1_readsOne 42 = .ok (.ifCond .lt 12, 3) := by decide +kernel
theorem dX1_readsOne_45 : decode cX1_readsOne 45 = .ok (.aload_n 1, 1) := by decide +kernel
theorem dX1_readsOne_46 : decode cX1_readsOne 46 = .ok (.bipush 44, 2) := by decide +kernel
theorem dX1_readsOne_48 : decode cX1_readsOne 48 = .ok (.invokevirtual 38, 3) := by decide +kernel
theorem dX1_readsOne_51 : decode cX1_readsOne 51 = .ok (.ifCond .ne 5, 3) := by decide +kernel
theorem dX1_readsOne_54 : decode cX1_readsOne 54 = .ok (.iconst 0, 1) := by decide +kernel
theorem dX1_readsOne_55 : decode cX1_readsOne 55 = .ok (.ireturn, 1) := by decide +kernel
theorem dX1_readsOne_56 : decode cX1_readsOne 56 = .ok (.aload_n 0, 1) := by decide +kernel
theorem dX1_readsOne_57 : decode cX1_readsOne 57 = .ok (.getfield 15, 3) := by decide +kernel
theorem dX1_readsOne_60 : decode cX1_readsOne 60 = .ok (.iload_n 3, 1) := by decide +kernel
theorem dX1_readsOne_61 : decode cX1_readsOne 61 = .ok (.aload_n 1, 1) := by decide +kernel
theorem dX1_readsOne_62 : decode cX1_readsOne 62 = .ok (.iconst 2, 1) := by decide +kernel
theorem dX1_readsOne_63 : decode cX1_readsOne 63 = .ok (.invokevirtual 42, 3) := by decide +kernel
theorem dX1_readsOne_66 : decode cX1_readsOne 66 = .ok (.iastore, 1) := by decide +kernel
theorem dX1_readsOne_67 : decode cX1_readsOne 67 = .ok (.aload_n 0, 1) := by decide +kernel
theorem dX1_readsOne_68 : decode cX1_readsOne 68 = .ok (.getfield 15, 3) := by decide +kernel
theorem dX1_readsOne_71 : decode cX1_readsOne 71 = .ok (.iload_n 3, 1) := by decide +kernel
theorem dX1_readsOne_72 : decode cX1_readsOne 72 = .ok (.iaload, 1) := by decide +kernel
theorem dX1_readsOne_73 : decode cX1_readsOne 73 = .ok (.ifCond .lt 12, 3) := by decide +kernel
theorem dX1_readsOne_76 : decode cX1_readsOne 76 = .ok (.aload_n 1, 1) := by decide +kernel
theorem dX1_readsOne_77 : decode cX1_readsOne 77 = .ok (.bipush 44, 2) := by decide +kernel
theorem dX1_readsOne_79 : decode cX1_readsOne 79 = .ok (.invokevirtual 38, 3) := by decide +kernel
theorem dX1_readsOne_82 : decode cX1_readsOne 82 = .ok (.ifCond .ne 5, 3) := by decide +kernel
theorem dX1_readsOne_85 : decode cX1_readsOne 85 = .ok (.iconst 0, 1) := by decide +kernel
theorem dX1_readsOne_86 : decode cX1_readsOne 86 = .ok (.ireturn, 1) := by decide +kernel
theorem dX1_readsOne_87 : decode cX1_readsOne 87 = .ok (.aload_n 0, 1) := by decide +kernel
theorem dX1_readsOne_88 : decode cX1_readsOne 88 = .ok (.getfield 18, 3) := by decide +kernel
theorem dX1_readsOne_91 : decode cX1_readsOne 91 = .ok (.iload_n 3, 1) := by decide +kernel
theorem dX1_readsOne_92 : decode cX1_readsOne 92 = .ok (.aload_n 1, 1) := by decide +kernel
theorem dX1_readsOne_93 : decode cX1_readsOne 93 = .ok (.bipush 10, 2) := by decide +kernel
theorem dX1_readsOne_95 : decode cX1_readsOne 95 = .ok (.invokevirtual 32, 3) := by decide +kernel
theorem dX1_readsOne_98 : decode cX1_readsOne 98 = .ok (.iastore, 1) := by decide +kernel
theorem dX1_readsOne_99 : decode cX1_readsOne 99 = .ok (.aload_n 0, 1) := by decide +kernel
theorem dX1_readsOne_100 : decode cX1_readsOne 100 = .ok (.getfield 18, 3) := by decide +kernel
theorem dX1_readsOne_103 : decode cX1_readsOne 103 = .ok (.iload_n 3, 1) := by decide +kernel
theorem dX1_readsOne_104 : decode cX1_readsOne 104 = .ok (.iaload, 1) := by decide +kernel
theorem dX1_readsOne_105 : decode cX1_readsOne 105 = .ok (.ifCond .lt 7, 3) := by decide +kernel
theorem dX1_readsOne_108 : decode cX1_readsOne 108 = .ok (.iconst 1, 1) := by decide +kernel
theorem dX1_readsOne_109 : decode cX1_readsOne 109 = .ok (.goto 4, 3) := by decide +kernel
theorem dX1_readsOne_112 : decode cX1_readsOne 112 = .ok (.iconst 0, 1) := by decide +kernel
theorem dX1_readsOne_113 : decode cX1_readsOne 113 = .ok (.ireturn, 1) := by decide +kernel
theorem dX11_witnesses_0 : decode cX11_witnesses 0 = .ok (.aload_n 0, 1) := by decide +kernel
theorem dX11_witnesses_1 : decode cX11_witnesses 1 = .ok (.getfield 35, 3) := by decide +kernel
theorem dX11_witnesses_4 : decode cX11_witnesses 4 = .ok (.aload_n 0, 1) := by decide +kernel
theorem dX11_witnesses_5 : decode cX11_witnesses 5 = .ok (.getfield 10, 3) := by decide +kernel
theorem dX11_witnesses_8 : decode cX11_witnesses 8 = .ok (.bipush 60, 2) := by decide +kernel
theorem dX11_witnesses_10 : decode cX11_witnesses 10 = .ok (.invokevirtual 133, 3) := by decide +kernel
theorem dX11_witnesses_13 : decode cX11_witnesses 13 = .ok (.istore_n 1, 1) := by decide +kernel
theorem dX11_witnesses_14 : decode cX11_witnesses 14 = .ok (.aload_n 0, 1) := by decide +kernel
theorem dX11_witnesses_15 : decode cX11_witnesses 15 = .ok (.getfield 10, 3) := by decide +kernel
theorem dX11_witnesses_18 : decode cX11_witnesses 18 = .ok (.invokevirtual 116, 3) := by decide +kernel
theorem dX11_witnesses_21 : decode cX11_witnesses 21 = .ok (.iload_n 1, 1) := by decide +kernel
theorem dX11_witnesses_22 : decode cX11_witnesses 22 = .ok (.ifCond .le 43, 3) := by decide +kernel
theorem dX11_witnesses_25 : decode cX11_witnesses 25 = .ok (.aload_n 0, 1) := by decide +kernel
theorem dX11_witnesses_26 : decode cX11_witnesses 26 = .ok (.getfield 65, 3) := by decide +kernel
theorem dX11_witnesses_29 : decode cX11_witnesses 29 = .ok (.aload_n 0, 1) := by decide +kernel
theorem dX11_witnesses_30 : decode cX11_witnesses 30 = .ok (.getfield 35, 3) := by decide +kernel
theorem dX11_witnesses_33 : decode cX11_witnesses 33 = .ok (.getfield 134, 3) := by decide +kernel
theorem dX11_witnesses_36 : decode cX11_witnesses 36 = .ok (.aload_n 0, 1) := by decide +kernel
theorem dX11_witnesses_37 : decode cX11_witnesses 37 = .ok (.getfield 35, 3) := by decide +kernel
theorem dX11_witnesses_40 : decode cX11_witnesses 40 = .ok (.getfield 134, 3) := by decide +kernel
theorem dX11_witnesses_43 : decode cX11_witnesses 43 = .ok (.iload_n 1, 1) := by decide +kernel
theorem dX11_witnesses_44 : decode cX11_witnesses 44 = .ok (.iadd, 1) := by decide +kernel
theorem dX11_witnesses_45 : decode cX11_witnesses 45 = .ok (.invokevirtual 135, 3) := by decide +kernel
theorem dX11_witnesses_48 : decode cX11_witnesses 48 = .ok (.aload_n 0, 1) := by decide +kernel
theorem dX11_witnesses_49 : decode cX11_witnesses 49 = .ok (.getfield 35, 3) := by decide +kernel
theorem dX11_witnesses_52 : decode cX11_witnesses 52 = .ok (.dup, 1) := by decide +kernel
theorem dX11_witnesses_53 : decode cX11_witnesses 53 = .ok (.getfield 134, 3) := by decide +kernel
theorem dX11_witnesses_56 : decode cX11_witnesses 56 = .ok (.iload_n 1, 1) := by decide +kernel
theorem dX11_witnesses_57 : decode cX11_witnesses 57 = .ok (.iadd, 1) := by decide +kernel
theorem dX11_witnesses_58 : decode cX11_witnesses 58 = .ok (.putfield 134, 3) := by decide +kernel
theorem dX11_witnesses_61 : decode cX11_witnesses 61 = .ok (.aload_n 0, 1) := by decide +kernel
theorem dX11_witnesses_62 : decode cX11_witnesses 62 = .ok (.invokevirtual 126, 3) := by decide +kernel
theorem dX11_witnesses_65 : decode cX11_witnesses 65 = .ok (.iload_n 1, 1) := by decide +kernel
theorem dX11_witnesses_66 : decode cX11_witnesses 66 = .ok (.ireturn, 1) := by decide +kernel
theorem dX12_witnesses_0 : decode cX12_witnesses 0 = .ok (.aload_n 0, 1) := by decide +kernel
theorem dX12_witnesses_1 : decode cX12_witnesses 1 = .ok (.iconst 0, 1) := by decide +kernel
theorem dX12_witnesses_2 : decode cX12_witnesses 2 = .ok (.putfield 95, 3) := by decide +kernel
theorem dX12_witnesses_5 : decode cX12_witnesses 5 = .ok (.aload_n 0, 1) := by decide +kernel
theorem dX12_witnesses_6 : decode cX12_witnesses 6 = .ok (.bipush 60, 2) := by decide +kernel
theorem dX12_witnesses_8 : decode cX12_witnesses 8 = .ok (.invokevirtual 162, 3) := by decide +kernel
theorem dX12_witnesses_11 : decode cX12_witnesses 11 = .ok (.aload_n 0, 1) := by decide +kernel
theorem dX12_witnesses_12 : decode cX12_witnesses 12 = .ok (.getfield 114, 3) := by decide +kernel
theorem dX12_witnesses_15 : decode cX12_witnesses 15 = .ok (.ifCond .ne 5, 3) := by decide +kernel
theorem dX12_witnesses_18 : decode cX12_witnesses 18 = .ok (.iconst 0, 1) := by decide +kernel
theorem dX12_witnesses_19 : decode cX12_witnesses 19 = .ok (.ireturn, 1) := by decide +kernel
theorem dX12_witnesses_20 : decode cX12_witnesses 20 = .ok (.iconst 0, 1) := by decide +kernel
theorem dX12_witnesses_21 : decode cX12_witnesses 21 = .ok (.istore_n 1, 1) := by decide +kernel
theorem dX12_witnesses_22 : decode cX12_witnesses 22 = .ok (.iconst 1, 1) := by decide +kernel
theorem dX12_witnesses_23 : decode cX12_witnesses 23 = .ok (.istore_n 2, 1) := by decide +kernel
theorem dX12_witnesses_24 : decode cX12_witnesses 24 = .ok (.iload_n 2, 1) := by decide +kernel
theorem dX12_witnesses_25 : decode cX12_witnesses 25 = .ok (.ifCond .eq 108, 3) := by decide +kernel
theorem dX12_witnesses_28 : decode cX12_witnesses 28 = .ok (.aload_n 0, 1) := by decide +kernel
theorem dX12_witnesses_29 : decode cX12_witnesses 29 = .ok (.invokevirtual 130, 3) := by decide +kernel
theorem dX12_witnesses_32 : decode cX12_witnesses 32 = .ok (.ifCond .eq 101, 3) := by decide +kernel
theorem dX12_witnesses_35 : decode cX12_witnesses 35 = .ok (.aload_n 0, 1) := by decide +kernel
theorem dX12_witnesses_36 : decode cX12_witnesses 36 = .ok (.getfield 181, 3) := by decide +kernel
theorem dX12_witnesses_39 : decode cX12_witnesses 39 = .ok (.iload_n 1, 1) := by decide +kernel
theorem dX12_witnesses_40 : decode cX12_witnesses 40 = .ok (.iadd, 1) := by decide +kernel
theorem dX12_witnesses_41 : decode cX12_witnesses 41 = .ok (.bipush 8, 2) := by decide +kernel
theorem dX12_witnesses_43 : decode cX12_witnesses 43 = .ok (.if_icmp .ne 14, 3) := by decide +kernel
theorem dX12_witnesses_46 : decode cX12_witnesses 46 = .ok (.aload_n 0, 1) := by decide +kernel
theorem dX12_witnesses_47 : decode cX12_witnesses 47 = .ok (.aload_n 0, 1) := by decide +kernel
theorem dX12_witnesses_48 : decode cX12_witnesses 48 = .ok (.getfield 120, 3) := by decide +kernel
theorem dX12_witnesses_51 : decode cX12_witnesses 51 = .ok (.invokevirtual 142, 3) := by decide +kernel
theorem dX12_witnesses_54 : decode cX12_witnesses 54 = .ok (.goto 66, 3) := by decide +kernel
theorem dX12_witnesses_57 : decode cX12_witnesses 57 = .ok (.aload_n 0, 1) := by decide +kernel
theorem dX12_witnesses_58 : decode cX12_witnesses 58 = .ok (.getfield 53, 3) := by decide +kernel
theorem dX12_witnesses_61 : decode cX12_witnesses 61 = .ok (.iconst 3, 1) := by decide +kernel
theorem dX12_witnesses_62 : decode cX12_witnesses 62 = .ok (.iload_n 1, 1) := by decide +kernel
theorem dX12_witnesses_63 : decode cX12_witnesses 63 = .ok (.imul, 1) := by decide +kernel
theorem dX12_witnesses_64 : decode cX12_witnesses 64 = .ok (.aload_n 0, 1) := by decide +kernel
theorem dX12_witnesses_65 : decode cX12_witnesses 65 = .ok (.bipush 48, 2) := by decide +kernel
theorem dX12_witnesses_67 : decode cX12_witnesses 67 = .ok (.aload_n 0, 1) := by decide +kernel
theorem dX12_witnesses_68 : decode cX12_witnesses 68 = .ok (.getfield 101, 3) := by decide +kernel
theorem dX12_witnesses_71 : decode cX12_witnesses 71 = .ok (.invokevirtual 146, 3) := by decide +kernel
theorem dX12_witnesses_74 : decode cX12_witnesses 74 = .ok (.iastore, 1) := by decide +kernel
theorem dX12_witnesses_75 : decode cX12_witnesses 75 = .ok (.aload_n 0, 1) := by decide +kernel
theorem dX12_witnesses_76 : decode cX12_witnesses 76 = .ok (.bipush 44, 2) := by decide +kernel
theorem dX12_witnesses_78 : decode cX12_witnesses 78 = .ok (.invokevirtual 154, 3) := by decide +kernel
theorem dX12_witnesses_81 : decode cX12_witnesses 81 = .ok (.aload_n 0, 1) := by decide +kernel
theorem dX12_witnesses_82 : decode cX12_witnesses 82 = .ok (.getfield 53, 3) := by decide +kernel
theorem dX12_witnesses_85 : decode cX12_witnesses 85 = .ok (.iconst 3, 1) := by decide +kernel
theorem dX12_witnesses_86 : decode cX12_witnesses 86 = .ok (.iload_n 1, 1) := by decide +kernel
theorem dX12_witnesses_87 : decode cX12_witnesses 87 = .ok (.imul, 1) := by decide +kernel
theorem dX12_witnesses_88 : decode cX12_witnesses 88 = .ok (.iconst 1, 1) := by decide +kernel
theorem dX12_witnesses_89 : decode cX12_witnesses 89 = .ok (.iadd, 1) := by decide +kernel
theorem dX12_witnesses_90 : decode cX12_witnesses 90 = .ok (.aload_n 0, 1) := by decide +kernel
theorem dX12_witnesses_91 : decode cX12_witnesses 91 = .ok (.iconst 2, 1) := by decide +kernel
theorem dX12_witnesses_92 : decode cX12_witnesses 92 = .ok (.invokevirtual 150, 3) := by decide +kernel
theorem dX12_witnesses_95 : decode cX12_witnesses 95 = .ok (.iastore, 1) := by decide +kernel
theorem dX12_witnesses_96 : decode cX12_witnesses 96 = .ok (.aload_n 0, 1) := by decide +kernel
theorem dX12_witnesses_97 : decode cX12_witnesses 97 = .ok (.bipush 44, 2) := by decide +kernel
theorem dX12_witnesses_99 : decode cX12_witnesses 99 = .ok (.invokevirtual 154, 3) := by decide +kernel
theorem dX12_witnesses_102 : decode cX12_witnesses 102 = .ok (.aload_n 0, 1) := by decide +kernel
theorem dX12_witnesses_103 : decode cX12_witnesses 103 = .ok (.getfield 53, 3) := by decide +kernel
theorem dX12_witnesses_106 : decode cX12_witnesses 106 = .ok (.iconst 3, 1) := by decide +kernel
theorem dX12_witnesses_107 : decode cX12_witnesses 107 = .ok (.iload_n 1, 1) := by decide +kernel
theorem dX12_witnesses_108 : decode cX12_witnesses 108 = .ok (.imul, 1) := by decide +kernel
theorem dX12_witnesses_109 : decode cX12_witnesses 109 = .ok (.iconst 2, 1) := by decide +kernel
theorem dX12_witnesses_110 : decode cX12_witnesses 110 = .ok (.iadd, 1) := by decide +kernel
theorem dX12_witnesses_111 : decode cX12_witnesses 111 = .ok (.aload_n 0, 1) := by decide +kernel
theorem dX12_witnesses_112 : decode cX12_witnesses 112 = .ok (.bipush 48, 2) := by decide +kernel
theorem dX12_witnesses_114 : decode cX12_witnesses 114 = .ok (.bipush 10, 2) := by decide +kernel
theorem dX12_witnesses_116 : decode cX12_witnesses 116 = .ok (.invokevirtual 146, 3) := by decide +kernel
theorem dX12_witnesses_119 : decode cX12_witnesses 119 = .ok (.iastore, 1) := by decide +kernel
theorem dX12_witnesses_120 : decode cX12_witnesses 120 = .ok (.iinc 1 1, 3) := by decide +kernel
theorem dX12_witnesses_123 : decode cX12_witnesses 123 = .ok (.aload_n 0, 1) := by decide +kernel
theorem dX12_witnesses_124 : decode cX12_witnesses 124 = .ok (.bipush 59, 2) := by decide +kernel
theorem dX12_witnesses_126 : decode cX12_witnesses 126 = .ok (.invokevirtual 138, 3) := by decide +kernel
theorem dX12_witnesses_129 : decode cX12_witnesses 129 = .ok (.istore_n 2, 1) := by decide +kernel
theorem dX12_witnesses_130 : decode cX12_witnesses 130 = .ok (.goto (-106), 3) := by decide +kernel
theorem dX12_witnesses_133 : decode cX12_witnesses 133 = .ok (.aload_n 0, 1) := by decide +kernel
theorem dX12_witnesses_134 : decode cX12_witnesses 134 = .ok (.invokevirtual 172, 3) := by decide +kernel
theorem dX12_witnesses_137 : decode cX12_witnesses 137 = .ok (.ifCond .ne 10, 3) := by decide +kernel
theorem dX12_witnesses_140 : decode cX12_witnesses 140 = .ok (.iconst (-1), 1) := by decide +kernel
theorem dX12_witnesses_141 : decode cX12_witnesses 141 = .ok (.aload_n 0, 1) := by decide +kernel
theorem dX12_witnesses_142 : decode cX12_witnesses 142 = .ok (.getfield 123, 3) := by decide +kernel
theorem dX12_witnesses_145 : decode cX12_witnesses 145 = .ok (.isub, 1) := by decide +kernel
theorem dX12_witnesses_146 : decode cX12_witnesses 146 = .ok (.ireturn, 1) := by decide +kernel
theorem dX12_witnesses_147 : decode cX12_witnesses 147 = .ok (.iconst 0, 1) := by decide +kernel
theorem dX12_witnesses_148 : decode cX12_witnesses 148 = .ok (.istore_n 3, 1) := by decide +kernel
theorem dX12_witnesses_149 : decode cX12_witnesses 149 = .ok (.iload_n 3, 1) := by decide +kernel
theorem dX12_witnesses_150 : decode cX12_witnesses 150 = .ok (.iload_n 1, 1) := by decide +kernel
theorem dX12_witnesses_151 : decode cX12_witnesses 151 = .ok (.if_icmp .ge 77, 3) := by decide +kernel
theorem dX12_witnesses_154 : decode cX12_witnesses 154 = .ok (.aload_n 0, 1) := by decide +kernel
theorem dX12_witnesses_155 : decode cX12_witnesses 155 = .ok (.getfield 32, 3) := by decide +kernel
theorem dX12_witnesses_158 : decode cX12_witnesses 158 = .ok (.aload_n 0, 1) := by decide +kernel
theorem dX12_witnesses_159 : decode cX12_witnesses 159 = .ok (.getfield 181, 3) := by decide +kernel
theorem dX12_witnesses_162 : decode cX12_witnesses 162 = .ok (.aload_n 0, 1) := by decide +kernel
theorem dX12_witnesses_163 : decode cX12_witnesses 163 = .ok (.getfield 53, 3) := by decide +kernel
theorem dX12_witnesses_166 : decode cX12_witnesses 166 = .ok (.iconst 3, 1) := by decide +kernel
theorem dX12_witnesses_167 : decode cX12_witnesses 167 = .ok (.iload_n 3, 1) := by decide +kernel
theorem dX12_witnesses_168 : decode cX12_witnesses 168 = .ok (.imul, 1) := by decide +kernel
theorem dX12_witnesses_169 : decode cX12_witnesses 169 = .ok (.iaload, 1) := by decide +kernel
theorem dX12_witnesses_170 : decode cX12_witnesses 170 = .ok (.iastore, 1) := by decide +kernel
theorem dX12_witnesses_171 : decode cX12_witnesses 171 = .ok (.aload_n 0, 1) := by decide +kernel
theorem dX12_witnesses_172 : decode cX12_witnesses 172 = .ok (.getfield 9, 3) := by decide +kernel
theorem dX12_witnesses_175 : decode cX12_witnesses 175 = .ok (.bipush 18, 2) := by decide +kernel
theorem dX12_witnesses_177 : decode cX12_witnesses 177 = .ok (.aload_n 0, 1) := by decide +kernel
theorem dX12_witnesses_178 : decode cX12_witnesses 178 = .ok (.getfield 181, 3) := by decide +kernel
theorem dX12_witnesses_181 : decode cX12_witnesses 181 = .ok (.iadd, 1) := by decide +kernel
theorem dX12_witnesses_182 : decode cX12_witnesses 182 = .ok (.aload_n 0, 1) := by decide +kernel
theorem dX12_witnesses_183 : decode cX12_witnesses 183 = .ok (.getfield 53, 3) := by decide +kernel
theorem dX12_witnesses_186 : decode cX12_witnesses 186 = .ok (.iconst 3, 1) := by decide +kernel
theorem dX12_witnesses_187 : decode cX12_witnesses 187 = .ok (.iload_n 3, 1) := by decide +kernel
theorem dX12_witnesses_188 : decode cX12_witnesses 188 = .ok (.imul, 1) := by decide +kernel
theorem dX12_witnesses_189 : decode cX12_witnesses 189 = .ok (.iconst 1, 1) := by decide +kernel
theorem dX12_witnesses_190 : decode cX12_witnesses 190 = .ok (.iadd, 1) := by decide +kernel
theorem dX12_witnesses_191 : decode cX12_witnesses 191 = .ok (.iaload, 1) := by decide +kernel
theorem dX12_witnesses_192 : decode cX12_witnesses 192 = .ok (.iastore, 1) := by decide +kernel
theorem dX12_witnesses_193 : decode cX12_witnesses 193 = .ok (.aload_n 0, 1) := by decide +kernel
theorem dX12_witnesses_194 : decode cX12_witnesses 194 = .ok (.getfield 35, 3) := by decide +kernel
theorem dX12_witnesses_197 : decode cX12_witnesses 197 = .ok (.aload_n 0, 1) := by decide +kernel
theorem dX12_witnesses_198 : decode cX12_witnesses 198 = .ok (.getfield 181, 3) := by decide +kernel
theorem dX12_witnesses_201 : decode cX12_witnesses 201 = .ok (.aload_n 0, 1) := by decide +kernel
theorem dX12_witnesses_202 : decode cX12_witnesses 202 = .ok (.getfield 53, 3) := by decide +kernel
theorem dX12_witnesses_205 : decode cX12_witnesses 205 = .ok (.iconst 3, 1) := by decide +kernel
theorem dX12_witnesses_206 : decode cX12_witnesses 206 = .ok (.iload_n 3, 1) := by decide +kernel
theorem dX12_witnesses_207 : decode cX12_witnesses 207 = .ok (.imul, 1) := by decide +kernel
theorem dX12_witnesses_208 : decode cX12_witnesses 208 = .ok (.iconst 2, 1) := by decide +kernel
theorem dX12_witnesses_209 : decode cX12_witnesses 209 = .ok (.iadd, 1) := by decide +kernel
theorem dX12_witnesses_210 : decode cX12_witnesses 210 = .ok (.iaload, 1) := by decide +kernel
theorem dX12_witnesses_211 : decode cX12_witnesses 211 = .ok (.iastore, 1) := by decide +kernel
theorem dX12_witnesses_212 : decode cX12_witnesses 212 = .ok (.aload_n 0, 1) := by decide +kernel
theorem dX12_witnesses_213 : decode cX12_witnesses 213 = .ok (.dup, 1) := by decide +kernel
theorem dX12_witnesses_214 : decode cX12_witnesses 214 = .ok (.getfield 181, 3) := by decide +kernel
theorem dX12_witnesses_217 : decode cX12_witnesses 217 = .ok (.iconst 1, 1) := by decide +kernel
theorem dX12_witnesses_218 : decode cX12_witnesses 218 = .ok (.iadd, 1) := by decide +kernel
theorem dX12_witnesses_219 : decode cX12_witnesses 219 = .ok (.putfield 181, 3) := by decide +kernel
theorem dX12_witnesses_222 : decode cX12_witnesses 222 = .ok (.iinc 3 1, 3) := by decide +kernel
theorem dX12_witnesses_225 : decode cX12_witnesses 225 = .ok (.goto (-76), 3) := by decide +kernel
theorem dX12_witnesses_228 : decode cX12_witnesses 228 = .ok (.aload_n 0, 1) := by decide +kernel
theorem dX12_witnesses_229 : decode cX12_witnesses 229 = .ok (.iconst 0, 1) := by decide +kernel
theorem dX12_witnesses_230 : decode cX12_witnesses 230 = .ok (.putfield 175, 3) := by decide +kernel
theorem dX12_witnesses_233 : decode cX12_witnesses 233 = .ok (.aload_n 0, 1) := by decide +kernel
theorem dX12_witnesses_234 : decode cX12_witnesses 234 = .ok (.dup, 1) := by decide +kernel
theorem dX12_witnesses_235 : decode cX12_witnesses 235 = .ok (.getfield 178, 3) := by decide +kernel
theorem dX12_witnesses_238 : decode cX12_witnesses 238 = .ok (.iconst 1, 1) := by decide +kernel
theorem dX12_witnesses_239 : decode cX12_witnesses 239 = .ok (.iadd, 1) := by decide +kernel
theorem dX12_witnesses_240 : decode cX12_witnesses 240 = .ok (.putfield 178, 3) := by decide +kernel
theorem dX12_witnesses_243 : decode cX12_witnesses 243 = .ok (.iload_n 1, 1) := by decide +kernel
theorem dX12_witnesses_244 : decode cX12_witnesses 244 = .ok (.ireturn, 1) := by decide +kernel
theorem dX2_enact_0 : decode cX2_enact 0 = .ok (.aload_n 0, 1) := by decide +kernel
theorem dX2_enact_1 : decode cX2_enact 1 = .ok (.getfield 15, 3) := by decide +kernel
theorem dX2_enact_4 : decode cX2_enact 4 = .ok (.iconst 0, 1) := by decide +kernel
theorem dX2_enact_5 : decode cX2_enact 5 = .ok (.aload_n 0, 1) := by decide +kernel
theorem dX2_enact_6 : decode cX2_enact 6 = .ok (.getfield 9, 3) := by decide +kernel
theorem dX2_enact_9 : decode cX2_enact 9 = .ok (.iconst 0, 1) := by decide +kernel
theorem dX2_enact_10 : decode cX2_enact 10 = .ok (.iconst 4, 1) := by decide +kernel
theorem dX2_enact_11 : decode cX2_enact 11 = .ok (.invokestatic 50, 3) := by decide +kernel
theorem dX2_enact_14 : decode cX2_enact 14 = .ok (.return_, 1) := by decide +kernel
theorem dX2_readLaw_0 : decode cX2_readLaw 0 = .ok (.aload_n 1, 1) := by decide +kernel
theorem dX2_readLaw_1 : decode cX2_readLaw 1 = .ok (.bipush 80, 2) := by decide +kernel
theorem dX2_readLaw_3 : decode cX2_readLaw 3 = .ok (.invokevirtual 30, 3) := by decide +kernel
theorem dX2_readLaw_6 : decode cX2_readLaw 6 = .ok (.iconst 0, 1) := by decide +kernel
theorem dX2_readLaw_7 : decode cX2_readLaw 7 = .ok (.istore_n 2, 1) := by decide +kernel
theorem dX2_readLaw_8 : decode cX2_readLaw 8 = .ok (.iconst 0, 1) := by decide +kernel
theorem dX2_readLaw_9 : decode cX2_readLaw 9 = .ok (.istore_n 3, 1) := by decide +kernel
theorem dX2_readLaw_10 : decode cX2_readLaw 10 = .ok (.iload_n 3, 1) := by decide +kernel
theorem dX2_readLaw_11 : decode cX2_readLaw 11 = .ok (.iconst 4, 1) := by decide +kernel
theorem dX2_readLaw_12 : decode cX2_readLaw 12 = .ok (.if_icmp .ge 53, 3) := by decide +kernel
theorem dX2_readLaw_15 : decode cX2_readLaw 15 = .ok (.aload_n 0, 1) := by decide +kernel
theorem dX2_readLaw_16 : decode cX2_readLaw 16 = .ok (.getfield 15, 3) := by decide +kernel
theorem dX2_readLaw_19 : decode cX2_readLaw 19 = .ok (.iload_n 3, 1) := by decide +kernel
theorem dX2_readLaw_20 : decode cX2_readLaw 20 = .ok (.aload_n 1, 1) := by decide +kernel
theorem dX2_readLaw_21 : decode cX2_readLaw 21 = .ok (.ldc 56, 2) := by decide +kernel
theorem dX2_readLaw_23 : decode cX2_readLaw 23 = .ok (.invokevirtual 58, 3) := by decide +kernel
theorem dX2_readLaw_26 : decode cX2_readLaw 26 = .ok (.iastore, 1) := by decide +kernel
theorem dX2_readLaw_27 : decode cX2_readLaw 27 = .ok (.aload_n 0, 1) := by decide +kernel
theorem dX2_readLaw_28 : decode cX2_readLaw 28 = .ok (.getfield 15, 3) := by decide +kernel
theorem dX2_readLaw_31 : decode cX2_readLaw 31 = .ok (.iload_n 3, 1) := by decide +kernel
theorem dX2_readLaw_32 : decode cX2_readLaw 32 = .ok (.iaload, 1) := by decide +kernel
theorem dX2_readLaw_33 : decode cX2_readLaw 33 = .ok (.ifCond .ge 8, 3) := by decide +kernel
theorem dX2_readLaw_36 : decode cX2_readLaw 36 = .ok (.aload_n 1, 1) := by decide +kernel
theorem dX2_readLaw_37 : decode cX2_readLaw 37 = .ok (.invokevirtual 38, 3) := by decide +kernel
theorem dX2_readLaw_40 : decode cX2_readLaw 40 = .ok (.ireturn, 1) := by decide +kernel
theorem dX2_readLaw_41 : decode cX2_readLaw 41 = .ok (.iload_n 2, 1) := by decide +kernel
theorem dX2_readLaw_42 : decode cX2_readLaw 42 = .ok (.aload_n 0, 1) := by decide +kernel
theorem dX2_readLaw_43 : decode cX2_readLaw 43 = .ok (.getfield 15, 3) := by decide +kernel
theorem dX2_readLaw_46 : decode cX2_readLaw 46 = .ok (.iload_n 3, 1) := by decide +kernel
theorem dX2_readLaw_47 : decode cX2_readLaw 47 = .ok (.iaload, 1) := by decide +kernel
theorem dX2_readLaw_48 : decode cX2_readLaw 48 = .ok (.iconst 1, 1) := by decide +kernel
theorem dX2_readLaw_49 : decode cX2_readLaw 49 = .ok (.if_icmp .ne 7, 3) := by decide +kernel
theorem dX2_readLaw_52 : decode cX2_readLaw 52 = .ok (.iconst 1, 1) := by decide +kernel
theorem dX2_readLaw_53 : decode cX2_readLaw 53 = .ok (.goto 4, 3) := by decide +kernel
theorem dX2_readLaw_56 : decode cX2_readLaw 56 = .ok (.iconst 0, 1) := by decide +kernel
theorem dX2_readLaw_57 : decode cX2_readLaw 57 = .ok (.iadd, 1) := by decide +kernel
theorem dX2_readLaw_58 : decode cX2_readLaw 58 = .ok (.istore_n 2, 1) := by decide +kernel
theorem dX2_readLaw_59 : decode cX2_readLaw 59 = .ok (.iinc 3 1, 3) := by decide +kernel
theorem dX2_readLaw_62 : decode cX2_readLaw 62 = .ok (.goto (-52), 3) := by decide +kernel
theorem dX2_readLaw_65 : decode cX2_readLaw 65 = .ok (.aload_n 1, 1) := by decide +kernel
theorem dX2_readLaw_66 : decode cX2_readLaw 66 = .ok (.invokevirtual 46, 3) := by decide +kernel
theorem dX2_readLaw_69 : decode cX2_readLaw 69 = .ok (.ifCond .eq 7, 3) := by decide +kernel
theorem dX2_readLaw_72 : decode cX2_readLaw 72 = .ok (.iload_n 2, 1) := by decide +kernel
theorem dX2_readLaw_73 : decode cX2_readLaw 73 = .ok (.goto 7, 3) := by decide +kernel
theorem dX2_readLaw_76 : decode cX2_readLaw 76 = .ok (.aload_n 1, 1) := by decide +kernel
theorem dX2_readLaw_77 : decode cX2_readLaw 77 = .ok (.invokevirtual 38, 3) := by decide +kernel
theorem dX2_readLaw_80 : decode cX2_readLaw 80 = .ok (.ireturn, 1) := by decide +kernel
theorem dX11_law_0 : decode cX11_law 0 = .ok (.aload_n 0, 1) := by decide +kernel
theorem dX11_law_1 : decode cX11_law 1 = .ok (.getfield 56, 3) := by decide +kernel
theorem dX11_law_4 : decode cX11_law 4 = .ok (.aload_n 0, 1) := by decide +kernel
theorem dX11_law_5 : decode cX11_law 5 = .ok (.getfield 10, 3) := by decide +kernel
theorem dX11_law_8 : decode cX11_law 8 = .ok (.invokevirtual 138, 3) := by decide +kernel
theorem dX11_law_11 : decode cX11_law 11 = .ok (.istore_n 1, 1) := by decide +kernel
theorem dX11_law_12 : decode cX11_law 12 = .ok (.aload_n 0, 1) := by decide +kernel
theorem dX11_law_13 : decode cX11_law 13 = .ok (.getfield 10, 3) := by decide +kernel
theorem dX11_law_16 : decode cX11_law 16 = .ok (.invokevirtual 116, 3) := by decide +kernel
theorem dX11_law_19 : decode cX11_law 19 = .ok (.iload_n 1, 1) := by decide +kernel
theorem dX11_law_20 : decode cX11_law 20 = .ok (.ifCond .lt 10, 3) := by decide +kernel
theorem dX11_law_23 : decode cX11_law 23 = .ok (.aload_n 0, 1) := by decide +kernel
theorem dX11_law_24 : decode cX11_law 24 = .ok (.getfield 56, 3) := by decide +kernel
theorem dX11_law_27 : decode cX11_law 27 = .ok (.invokevirtual 141, 3) := by decide +kernel
theorem dX11_law_30 : decode cX11_law 30 = .ok (.iload_n 1, 1) := by decide +kernel
theorem dX11_law_31 : decode cX11_law 31 = .ok (.ireturn, 1) := by decide +kernel
theorem dX12_whoseBy_0 : decode cX12_whoseBy 0 = .ok (.iload_n 0, 1) := by decide +kernel
theorem dX12_whoseBy_1 : decode cX12_whoseBy 1 = .ok (.bipush 104, 2) := by decide +kernel
theorem dX12_whoseBy_3 : decode cX12_whoseBy 3 = .ok (.if_icmp .ne 7, 3) := by decide +kernel
theorem dX12_whoseBy_6 : decode cX12_whoseBy 6 = .ok (.iconst 0, 1) := by decide +kernel
theorem dX12_whoseBy_7 : decode cX12_whoseBy 7 = .ok (.goto 24, 3) := by decide +kernel
theorem dX12_whoseBy_10 : decode cX12_whoseBy 10 = .ok (.iload_n 0, 1) := by decide +kernel
theorem dX12_whoseBy_11 : decode cX12_whoseBy 11 = .ok (.bipush 107, 2) := by decide +kernel
theorem dX12_whoseBy_13 : decode cX12_whoseBy 13 = .ok (.if_icmp .ne 7, 3) := by decide +kernel
theorem dX12_whoseBy_16 : decode cX12_whoseBy 16 = .ok (.iconst 1, 1) := by decide +kernel
theorem dX12_whoseBy_17 : decode cX12_whoseBy 17 = .ok (.goto 14, 3) := by decide +kernel
theorem dX12_whoseBy_20 : decode cX12_whoseBy 20 = .ok (.iload_n 0, 1) := by decide +kernel
theorem dX12_whoseBy_21 : decode cX12_whoseBy 21 = .ok (.bipush 115, 2) := by decide +kernel
theorem dX12_whoseBy_23 : decode cX12_whoseBy 23 = .ok (.if_icmp .ne 7, 3) := by decide +kernel
theorem dX12_whoseBy_26 : decode cX12_whoseBy 26 = .ok (.iconst 2, 1) := by decide +kernel
theorem dX12_whoseBy_27 : decode cX12_whoseBy 27 = .ok (.goto 4, 3) := by decide +kernel
theorem dX12_whoseBy_30 : decode cX12_whoseBy 30 = .ok (.iconst (-1), 1) := by decide +kernel
theorem dX12_whoseBy_31 : decode cX12_whoseBy 31 = .ok (.ireturn, 1) := by decide +kernel
theorem dX12_readLaw_0 : decode cX12_readLaw 0 = .ok (.aload_n 0, 1) := by decide +kernel
theorem dX12_readLaw_1 : decode cX12_readLaw 1 = .ok (.bipush 80, 2) := by decide +kernel
theorem dX12_readLaw_3 : decode cX12_readLaw 3 = .ok (.invokevirtual 162, 3) := by decide +kernel
theorem dX12_readLaw_6 : decode cX12_readLaw 6 = .ok (.iconst 0, 1) := by decide +kernel
theorem dX12_readLaw_7 : decode cX12_readLaw 7 = .ok (.istore_n 1, 1) := by decide +kernel
theorem dX12_readLaw_8 : decode cX12_readLaw 8 = .ok (.iload_n 1, 1) := by decide +kernel
theorem dX12_readLaw_9 : decode cX12_readLaw 9 = .ok (.iconst 4, 1) := by decide +kernel
theorem dX12_readLaw_10 : decode cX12_readLaw 10 = .ok (.if_icmp .ge 60, 3) := by decide +kernel
theorem dX12_readLaw_13 : decode cX12_readLaw 13 = .ok (.aload_n 0, 1) := by decide +kernel
theorem dX12_readLaw_14 : decode cX12_readLaw 14 = .ok (.invokevirtual 130, 3) := by decide +kernel
theorem dX12_readLaw_17 : decode cX12_readLaw 17 = .ok (.ifCond .eq 53, 3) := by decide +kernel
theorem dX12_readLaw_20 : decode cX12_readLaw 20 = .ok (.aload_n 0, 1) := by decide +kernel
theorem dX12_readLaw_21 : decode cX12_readLaw 21 = .ok (.getfield 53, 3) := by decide +kernel
theorem dX12_readLaw_24 : decode cX12_readLaw 24 = .ok (.iload_n 1, 1) := by decide +kernel
theorem dX12_readLaw_25 : decode cX12_readLaw 25 = .ok (.aload_n 0, 1) := by decide +kernel
theorem dX12_readLaw_26 : decode cX12_readLaw 26 = .ok (.invokevirtual 134, 3) := by decide +kernel
theorem dX12_readLaw_29 : decode cX12_readLaw 29 = .ok (.invokestatic 184, 3) := by decide +kernel
theorem dX12_readLaw_32 : decode cX12_readLaw 32 = .ok (.iastore, 1) := by decide +kernel
theorem dX12_readLaw_33 : decode cX12_readLaw 33 = .ok (.aload_n 0, 1) := by decide +kernel
theorem dX12_readLaw_34 : decode cX12_readLaw 34 = .ok (.getfield 53, 3) := by decide +kernel
theorem dX12_readLaw_37 : decode cX12_readLaw 37 = .ok (.iload_n 1, 1) := by decide +kernel
theorem dX12_readLaw_38 : decode cX12_readLaw 38 = .ok (.iaload, 1) := by decide +kernel
theorem dX12_readLaw_39 : decode cX12_readLaw 39 = .ok (.iconst (-1), 1) := by decide +kernel
theorem dX12_readLaw_40 : decode cX12_readLaw 40 = .ok (.if_icmp .ne 14, 3) := by decide +kernel
theorem dX12_readLaw_43 : decode cX12_readLaw 43 = .ok (.aload_n 0, 1) := by decide +kernel
theorem dX12_readLaw_44 : decode cX12_readLaw 44 = .ok (.aload_n 0, 1) := by decide +kernel
theorem dX12_readLaw_45 : decode cX12_readLaw 45 = .ok (.getfield 120, 3) := by decide +kernel
theorem dX12_readLaw_48 : decode cX12_readLaw 48 = .ok (.invokevirtual 142, 3) := by decide +kernel
theorem dX12_readLaw_51 : decode cX12_readLaw 51 = .ok (.goto 13, 3) := by decide +kernel
theorem dX12_readLaw_54 : decode cX12_readLaw 54 = .ok (.aload_n 0, 1) := by decide +kernel
theorem dX12_readLaw_55 : decode cX12_readLaw 55 = .ok (.dup, 1) := by decide +kernel
theorem dX12_readLaw_56 : decode cX12_readLaw 56 = .ok (.getfield 120, 3) := by decide +kernel
theorem dX12_readLaw_59 : decode cX12_readLaw 59 = .ok (.iconst 1, 1) := by decide +kernel
theorem dX12_readLaw_60 : decode cX12_readLaw 60 = .ok (.iadd, 1) := by decide +kernel
theorem dX12_readLaw_61 : decode cX12_readLaw 61 = .ok (.putfield 120, 3) := by decide +kernel
theorem dX12_readLaw_64 : decode cX12_readLaw 64 = .ok (.iinc 1 1, 3) := by decide +kernel
theorem dX12_readLaw_67 : decode cX12_readLaw 67 = .ok (.goto (-59), 3) := by decide +kernel
theorem dX12_readLaw_70 : decode cX12_readLaw 70 = .ok (.aload_n 0, 1) := by decide +kernel
theorem dX12_readLaw_71 : decode cX12_readLaw 71 = .ok (.invokevirtual 172, 3) := by decide +kernel
theorem dX12_readLaw_74 : decode cX12_readLaw 74 = .ok (.ireturn, 1) := by decide +kernel
theorem dX12_law_0 : decode cX12_law 0 = .ok (.aload_n 0, 1) := by decide +kernel
theorem dX12_law_1 : decode cX12_law 1 = .ok (.iconst 0, 1) := by decide +kernel
theorem dX12_law_2 : decode cX12_law 2 = .ok (.putfield 95, 3) := by decide +kernel
theorem dX12_law_5 : decode cX12_law 5 = .ok (.aload_n 0, 1) := by decide +kernel
theorem dX12_law_6 : decode cX12_law 6 = .ok (.invokevirtual 187, 3) := by decide +kernel
theorem dX12_law_9 : decode cX12_law 9 = .ok (.ifCond .ne 10, 3) := by decide +kernel
theorem dX12_law_12 : decode cX12_law 12 = .ok (.iconst (-1), 1) := by decide +kernel
theorem dX12_law_13 : decode cX12_law 13 = .ok (.aload_n 0, 1) := by decide +kernel
theorem dX12_law_14 : decode cX12_law 14 = .ok (.getfield 123, 3) := by decide +kernel
theorem dX12_law_17 : decode cX12_law 17 = .ok (.isub, 1) := by decide +kernel
theorem dX12_law_18 : decode cX12_law 18 = .ok (.ireturn, 1) := by decide +kernel
theorem dX12_law_19 : decode cX12_law 19 = .ok (.iconst 0, 1) := by decide +kernel
theorem dX12_law_20 : decode cX12_law 20 = .ok (.istore_n 1, 1) := by decide +kernel
theorem dX12_law_21 : decode cX12_law 21 = .ok (.iconst 0, 1) := by decide +kernel
theorem dX12_law_22 : decode cX12_law 22 = .ok (.istore_n 2, 1) := by decide +kernel
theorem dX12_law_23 : decode cX12_law 23 = .ok (.iload_n 2, 1) := by decide +kernel
theorem dX12_law_24 : decode cX12_law 24 = .ok (.iconst 4, 1) := by decide +kernel
theorem dX12_law_25 : decode cX12_law 25 = .ok (.if_icmp .ge 39, 3) := by decide +kernel
theorem dX12_law_28 : decode cX12_law 28 = .ok (.aload_n 0, 1) := by decide +kernel
theorem dX12_law_29 : decode cX12_law 29 = .ok (.getfield 38, 3) := by decide +kernel
theorem dX12_law_32 : decode cX12_law 32 = .ok (.iload_n 2, 1) := by decide +kernel
theorem dX12_law_33 : decode cX12_law 33 = .ok (.aload_n 0, 1) := by decide +kernel
theorem dX12_law_34 : decode cX12_law 34 = .ok (.getfield 53, 3) := by decide +kernel
theorem dX12_law_37 : decode cX12_law 37 = .ok (.iload_n 2, 1) := by decide +kernel
theorem dX12_law_38 : decode cX12_law 38 = .ok (.iaload, 1) := by decide +kernel
theorem dX12_law_39 : decode cX12_law 39 = .ok (.iastore, 1) := by decide +kernel
theorem dX12_law_40 : decode cX12_law 40 = .ok (.iload_n 1, 1) := by decide +kernel
theorem dX12_law_41 : decode cX12_law 41 = .ok (.aload_n 0, 1) := by decide +kernel
theorem dX12_law_42 : decode cX12_law 42 = .ok (.getfield 38, 3) := by decide +kernel
theorem dX12_law_45 : decode cX12_law 45 = .ok (.iload_n 2, 1) := by decide +kernel
theorem dX12_law_46 : decode cX12_law 46 = .ok (.iaload, 1) := by decide +kernel
theorem dX12_law_47 : decode cX12_law 47 = .ok (.iconst 1, 1) := by decide +kernel
theorem dX12_law_48 : decode cX12_law 48 = .ok (.if_icmp .ne 7, 3) := by decide +kernel
theorem dX12_law_51 : decode cX12_law 51 = .ok (.iconst 1, 1) := by decide +kernel
theorem dX12_law_52 : decode cX12_law 52 = .ok (.goto 4, 3) := by decide +kernel
theorem dX12_law_55 : decode cX12_law 55 = .ok (.iconst 0, 1) := by decide +kernel
theorem dX12_law_56 : decode cX12_law 56 = .ok (.iadd, 1) := by decide +kernel
theorem dX12_law_57 : decode cX12_law 57 = .ok (.istore_n 1, 1) := by decide +kernel
theorem dX12_law_58 : decode cX12_law 58 = .ok (.iinc 2 1, 3) := by decide +kernel
theorem dX12_law_61 : decode cX12_law 61 = .ok (.goto (-38), 3) := by decide +kernel
theorem dX12_law_64 : decode cX12_law 64 = .ok (.iload_n 1, 1) := by decide +kernel
theorem dX12_law_65 : decode cX12_law 65 = .ok (.ireturn, 1) := by decide +kernel
theorem dX8_drafts_0 : decode cX8_drafts 0 = .ok (.aload_n 0, 1) := by decide +kernel
theorem dX8_drafts_1 : decode cX8_drafts 1 = .ok (.getfield 22, 3) := by decide +kernel
theorem dX8_drafts_4 : decode cX8_drafts 4 = .ok (.bipush 40, 2) := by decide +kernel
theorem dX8_drafts_6 : decode cX8_drafts 6 = .ok (.if_icmp .lt 5, 3) := by decide +kernel
theorem dX8_drafts_9 : decode cX8_drafts 9 = .ok (.iconst 0, 1) := by decide +kernel
theorem dX8_drafts_10 : decode cX8_drafts 10 = .ok (.ireturn, 1) := by decide +kernel
theorem dX8_drafts_11 : decode cX8_drafts 11 = .ok (.aload_n 0, 1) := by decide +kernel
theorem dX8_drafts_12 : decode cX8_drafts 12 = .ok (.getfield 19, 3) := by decide +kernel
theorem dX8_drafts_15 : decode cX8_drafts 15 = .ok (.aload_n 0, 1) := by decide +kernel
theorem dX8_drafts_16 : decode cX8_drafts 16 = .ok (.getfield 22, 3) := by decide +kernel
theorem dX8_drafts_19 : decode cX8_drafts 19 = .ok (.iload_n 1, 1) := by decide +kernel
theorem dX8_drafts_20 : decode cX8_drafts 20 = .ok (.iastore, 1) := by decide +kernel
theorem dX8_drafts_21 : decode cX8_drafts 21 = .ok (.aload_n 0, 1) := by decide +kernel
theorem dX8_drafts_22 : decode cX8_drafts 22 = .ok (.dup, 1) := by decide +kernel
theorem dX8_drafts_23 : decode cX8_drafts 23 = .ok (.getfield 22, 3) := by decide +kernel
theorem dX8_drafts_26 : decode cX8_drafts 26 = .ok (.iconst 1, 1) := by decide +kernel
theorem dX8_drafts_27 : decode cX8_drafts 27 = .ok (.iadd, 1) := by decide +kernel
theorem dX8_drafts_28 : decode cX8_drafts 28 = .ok (.putfield 22, 3) := by decide +kernel
theorem dX8_drafts_31 : decode cX8_drafts 31 = .ok (.iconst 1, 1) := by decide +kernel
theorem dX8_drafts_32 : decode cX8_drafts 32 = .ok (.ireturn, 1) := by decide +kernel
theorem dX8_readsSigned_0 : decode cX8_readsSigned 0 = .ok (.iconst 0, 1) := by decide +kernel
theorem dX8_readsSigned_1 : decode cX8_readsSigned 1 = .ok (.istore_n 3, 1) := by decide +kernel
theorem dX8_readsSigned_2 : decode cX8_readsSigned 2 = .ok (.iload_n 3, 1) := by decide +kernel
theorem dX8_readsSigned_3 : decode cX8_readsSigned 3 = .ok (.bipush 40, 2) := by decide +kernel
theorem dX8_readsSigned_5 : decode cX8_readsSigned 5 = .ok (.if_icmp .ge 18, 3) := by decide +kernel
theorem dX8_readsSigned_8 : decode cX8_readsSigned 8 = .ok (.aload_n 1, 1) := by decide +kernel
theorem dX8_readsSigned_9 : decode cX8_readsSigned 9 = .ok (.bipush 45, 2) := by decide +kernel
theorem dX8_readsSigned_11 : decode cX8_readsSigned 11 = .ok (.invokevirtual 84, 3) := by decide +kernel
theorem dX8_readsSigned_14 : decode cX8_readsSigned 14 = .ok (.ifCond .eq 9, 3) := by decide +kernel
theorem dX8_readsSigned_17 : decode cX8_readsSigned 17 = .ok (.iinc 3 1, 3) := by decide +kernel
theorem dX8_readsSigned_20 : decode cX8_readsSigned 20 = .ok (.goto (-18), 3) := by decide +kernel
theorem dX8_readsSigned_23 : decode cX8_readsSigned 23 = .ok (.aload_n 0, 1) := by decide +kernel
theorem dX8_readsSigned_24 : decode cX8_readsSigned 24 = .ok (.aload_n 1, 1) := by decide +kernel
theorem dX8_readsSigned_25 : decode cX8_readsSigned 25 = .ok (.iload_n 2, 1) := by decide +kernel
theorem dX8_readsSigned_26 : decode cX8_readsSigned 26 = .ok (.invokevirtual 88, 3) := by decide +kernel
theorem dX8_readsSigned_29 : decode cX8_readsSigned 29 = .ok (.istore 4, 2) := by decide +kernel
theorem dX8_readsSigned_31 : decode cX8_readsSigned 31 = .ok (.iconst 0, 1) := by decide +kernel
theorem dX8_readsSigned_32 : decode cX8_readsSigned 32 = .ok (.istore 5, 2) := by decide +kernel
theorem dX8_readsSigned_34 : decode cX8_readsSigned 34 = .ok (.iload 5, 2) := by decide +kernel
theorem dX8_readsSigned_36 : decode cX8_readsSigned 36 = .ok (.iload_n 3, 1) := by decide +kernel
theorem dX8_readsSigned_37 : decode cX8_readsSigned 37 = .ok (.if_icmp .ge 23, 3) := by decide +kernel
theorem dX8_readsSigned_40 : decode cX8_readsSigned 40 = .ok (.iload 4, 2) := by decide +kernel
theorem dX8_readsSigned_42 : decode cX8_readsSigned 42 = .ok (.ifCond .eq 18, 3) := by decide +kernel
theorem dX8_readsSigned_45 : decode cX8_readsSigned 45 = .ok (.aload_n 0, 1) := by decide +kernel
theorem dX8_readsSigned_46 : decode cX8_readsSigned 46 = .ok (.sipush 2007, 3) := by decide +kernel
theorem dX8_readsSigned_49 : decode cX8_readsSigned 49 = .ok (.invokevirtual 70, 3) := by decide +kernel
theorem dX8_readsSigned_52 : decode cX8_readsSigned 52 = .ok (.istore 4, 2) := by decide +kernel
theorem dX8_readsSigned_54 : decode cX8_readsSigned 54 = .ok (.iinc 5 1, 3) := by decide +kernel
theorem dX8_readsSigned_57 : decode cX8_readsSigned 57 = .ok (.goto (-23), 3) := by decide +kernel
theorem dX8_readsSigned_60 : decode cX8_readsSigned 60 = .ok (.iload 4, 2) := by decide +kernel
theorem dX8_readsSigned_62 : decode cX8_readsSigned 62 = .ok (.ireturn, 1) := by decide +kernel
theorem dX8_readsProduct_0 : decode cX8_readsProduct 0 = .ok (.aload_n 0, 1) := by decide +kernel
theorem dX8_readsProduct_1 : decode cX8_readsProduct 1 = .ok (.aload_n 1, 1) := by decide +kernel
theorem dX8_readsProduct_2 : decode cX8_readsProduct 2 = .ok (.iload_n 2, 1) := by decide +kernel
theorem dX8_readsProduct_3 : decode cX8_readsProduct 3 = .ok (.invokevirtual 79, 3) := by decide +kernel
theorem dX8_readsProduct_6 : decode cX8_readsProduct 6 = .ok (.istore_n 3, 1) := by decide +kernel
theorem dX8_readsProduct_7 : decode cX8_readsProduct 7 = .ok (.iload_n 3, 1) := by decide +kernel
theorem dX8_readsProduct_8 : decode cX8_readsProduct 8 = .ok (.ifCond .eq 12, 3) := by decide +kernel
theorem dX8_readsProduct_11 : decode cX8_readsProduct 11 = .ok (.aload_n 1, 1) := by decide +kernel
theorem dX8_readsProduct_12 : decode cX8_readsProduct 12 = .ok (.ldc 82, 2) := by decide +kernel
theorem dX8_readsProduct_14 : decode cX8_readsProduct 14 = .ok (.invokevirtual 66, 3) := by decide +kernel
theorem dX8_readsProduct_17 : decode cX8_readsProduct 17 = .ok (.goto 4, 3) := by decide +kernel
theorem dX8_readsProduct_20 : decode cX8_readsProduct 20 = .ok (.iconst (-1), 1) := by decide +kernel
theorem dX8_readsProduct_21 : decode cX8_readsProduct 21 = .ok (.istore 4, 2) := by decide +kernel
theorem dX8_readsProduct_23 : decode cX8_readsProduct 23 = .ok (.iconst 0, 1) := by decide +kernel
theorem dX8_readsProduct_24 : decode cX8_readsProduct 24 = .ok (.istore 5, 2) := by decide +kernel
theorem dX8_readsProduct_26 : decode cX8_readsProduct 26 = .ok (.iload 5, 2) := by decide +kernel
theorem dX8_readsProduct_28 : decode cX8_readsProduct 28 = .ok (.bipush 40, 2) := by decide +kernel
theorem dX8_readsProduct_30 : decode cX8_readsProduct 30 = .ok (.if_icmp .ge 58, 3) := by decide +kernel
theorem dX8_readsProduct_33 : decode cX8_readsProduct 33 = .ok (.iload 4, 2) := by decide +kernel
theorem dX8_readsProduct_35 : decode cX8_readsProduct 35 = .ok (.ifCond .lt 53, 3) := by decide +kernel
theorem dX8_readsProduct_38 : decode cX8_readsProduct 38 = .ok (.aload_n 0, 1) := by decide +kernel
theorem dX8_readsProduct_39 : decode cX8_readsProduct 39 = .ok (.aload_n 1, 1) := by decide +kernel
theorem dX8_readsProduct_40 : decode cX8_readsProduct 40 = .ok (.iload_n 2, 1) := by decide +kernel
theorem dX8_readsProduct_41 : decode cX8_readsProduct 41 = .ok (.invokevirtual 79, 3) := by decide +kernel
theorem dX8_readsProduct_44 : decode cX8_readsProduct 44 = .ok (.ifCond .eq 20, 3) := by decide +kernel
theorem dX8_readsProduct_47 : decode cX8_readsProduct 47 = .ok (.aload_n 0, 1) := by decide +kernel
theorem dX8_readsProduct_48 : decode cX8_readsProduct 48 = .ok (.sipush 2005, 3) := by decide +kernel
theorem dX8_readsProduct_51 : decode cX8_readsProduct 51 = .ok (.iload 4, 2) := by decide +kernel
theorem dX8_readsProduct_53 : decode cX8_readsProduct 53 = .ok (.iadd, 1) := by decide +kernel
theorem dX8_readsProduct_54 : decode cX8_readsProduct 54 = .ok (.invokevirtual 70, 3) := by decide +kernel
theorem dX8_readsProduct_57 : decode cX8_readsProduct 57 = .ok (.ifCond .eq 7, 3) := by decide +kernel
theorem dX8_readsProduct_60 : decode cX8_readsProduct 60 = .ok (.iconst 1, 1) := by decide +kernel
theorem dX8_readsProduct_61 : decode cX8_readsProduct 61 = .ok (.goto 4, 3) := by decide +kernel
theorem dX8_readsProduct_64 : decode cX8_readsProduct 64 = .ok (.iconst 0, 1) := by decide +kernel
theorem dX8_readsProduct_65 : decode cX8_readsProduct 65 = .ok (.istore_n 3, 1) := by decide +kernel
theorem dX8_readsProduct_66 : decode cX8_readsProduct 66 = .ok (.iload_n 3, 1) := by decide +kernel
theorem dX8_readsProduct_67 : decode cX8_readsProduct 67 = .ok (.ifCond .eq 12, 3) := by decide +kernel
theorem dX8_readsProduct_70 : decode cX8_readsProduct 70 = .ok (.aload_n 1, 1) := by decide +kernel
theorem dX8_readsProduct_71 : decode cX8_readsProduct 71 = .ok (.ldc 82, 2) := by decide +kernel
theorem dX8_readsProduct_73 : decode cX8_readsProduct 73 = .ok (.invokevirtual 66, 3) := by decide +kernel
theorem dX8_readsProduct_76 : decode cX8_readsProduct 76 = .ok (.goto 4, 3) := by decide +kernel
theorem dX8_readsProduct_79 : decode cX8_readsProduct 79 = .ok (.iconst (-1), 1) := by decide +kernel
theorem dX8_readsProduct_80 : decode cX8_readsProduct 80 = .ok (.istore 4, 2) := by decide +kernel
theorem dX8_readsProduct_82 : decode cX8_readsProduct 82 = .ok (.iinc 5 1, 3) := by decide +kernel
theorem dX8_readsProduct_85 : decode cX8_readsProduct 85 = .ok (.goto (-59), 3) := by decide +kernel
theorem dX8_readsProduct_88 : decode cX8_readsProduct 88 = .ok (.iload_n 3, 1) := by decide +kernel
theorem dX8_readsProduct_89 : decode cX8_readsProduct 89 = .ok (.ireturn, 1) := by decide +kernel
theorem dX8_readsSum_0 : decode cX8_readsSum 0 = .ok (.aload_n 0, 1) := by decide +kernel
theorem dX8_readsSum_1 : decode cX8_readsSum 1 = .ok (.aload_n 1, 1) := by decide +kernel
theorem dX8_readsSum_2 : decode cX8_readsSum 2 = .ok (.iload_n 2, 1) := by decide +kernel
theorem dX8_readsSum_3 : decode cX8_readsSum 3 = .ok (.invokevirtual 74, 3) := by decide +kernel
theorem dX8_readsSum_6 : decode cX8_readsSum 6 = .ok (.istore_n 3, 1) := by decide +kernel
theorem dX8_readsSum_7 : decode cX8_readsSum 7 = .ok (.iload_n 3, 1) := by decide +kernel
theorem dX8_readsSum_8 : decode cX8_readsSum 8 = .ok (.ifCond .eq 12, 3) := by decide +kernel
theorem dX8_readsSum_11 : decode cX8_readsSum 11 = .ok (.aload_n 1, 1) := by decide +kernel
theorem dX8_readsSum_12 : decode cX8_readsSum 12 = .ok (.ldc 77, 2) := by decide +kernel
theorem dX8_readsSum_14 : decode cX8_readsSum 14 = .ok (.invokevirtual 66, 3) := by decide +kernel
theorem dX8_readsSum_17 : decode cX8_readsSum 17 = .ok (.goto 4, 3) := by decide +kernel
theorem dX8_readsSum_20 : decode cX8_readsSum 20 = .ok (.iconst (-1), 1) := by decide +kernel
theorem dX8_readsSum_21 : decode cX8_readsSum 21 = .ok (.istore 4, 2) := by decide +kernel
theorem dX8_readsSum_23 : decode cX8_readsSum 23 = .ok (.iconst 0, 1) := by decide +kernel
theorem dX8_readsSum_24 : decode cX8_readsSum 24 = .ok (.istore 5, 2) := by decide +kernel
theorem dX8_readsSum_26 : decode cX8_readsSum 26 = .ok (.iload 5, 2) := by decide +kernel
theorem dX8_readsSum_28 : decode cX8_readsSum 28 = .ok (.bipush 40, 2) := by decide +kernel
theorem dX8_readsSum_30 : decode cX8_readsSum 30 = .ok (.if_icmp .ge 58, 3) := by decide +kernel
theorem dX8_readsSum_33 : decode cX8_readsSum 33 = .ok (.iload 4, 2) := by decide +kernel
theorem dX8_readsSum_35 : decode cX8_readsSum 35 = .ok (.ifCond .lt 53, 3) := by decide +kernel
theorem dX8_readsSum_38 : decode cX8_readsSum 38 = .ok (.aload_n 0, 1) := by decide +kernel
theorem dX8_readsSum_39 : decode cX8_readsSum 39 = .ok (.aload_n 1, 1) := by decide +kernel
theorem dX8_readsSum_40 : decode cX8_readsSum 40 = .ok (.iload_n 2, 1) := by decide +kernel
theorem dX8_readsSum_41 : decode cX8_readsSum 41 = .ok (.invokevirtual 74, 3) := by decide +kernel
theorem dX8_readsSum_44 : decode cX8_readsSum 44 = .ok (.ifCond .eq 20, 3) := by decide +kernel
theorem dX8_readsSum_47 : decode cX8_readsSum 47 = .ok (.aload_n 0, 1) := by decide +kernel
theorem dX8_readsSum_48 : decode cX8_readsSum 48 = .ok (.sipush 2003, 3) := by decide +kernel
theorem dX8_readsSum_51 : decode cX8_readsSum 51 = .ok (.iload 4, 2) := by decide +kernel
theorem dX8_readsSum_53 : decode cX8_readsSum 53 = .ok (.iadd, 1) := by decide +kernel
theorem dX8_readsSum_54 : decode cX8_readsSum 54 = .ok (.invokevirtual 70, 3) := by decide +kernel
theorem dX8_readsSum_57 : decode cX8_readsSum 57 = .ok (.ifCond .eq 7, 3) := by decide +kernel
theorem dX8_readsSum_60 : decode cX8_readsSum 60 = .ok (.iconst 1, 1) := by decide +kernel
theorem dX8_readsSum_61 : decode cX8_readsSum 61 = .ok (.goto 4, 3) := by decide +kernel
theorem dX8_readsSum_64 : decode cX8_readsSum 64 = .ok (.iconst 0, 1) := by decide +kernel
theorem dX8_readsSum_65 : decode cX8_readsSum 65 = .ok (.istore_n 3, 1) := by decide +kernel
theorem dX8_readsSum_66 : decode cX8_readsSum 66 = .ok (.iload_n 3, 1) := by decide +kernel
theorem dX8_readsSum_67 : decode cX8_readsSum 67 = .ok (.ifCond .eq 12, 3) := by decide +kernel
theorem dX8_readsSum_70 : decode cX8_readsSum 70 = .ok (.aload_n 1, 1) := by decide +kernel
theorem dX8_readsSum_71 : decode cX8_readsSum 71 = .ok (.ldc 77, 2) := by decide +kernel
theorem dX8_readsSum_73 : decode cX8_readsSum 73 = .ok (.invokevirtual 66, 3) := by decide +kernel
theorem dX8_readsSum_76 : decode cX8_readsSum 76 = .ok (.goto 4, 3) := by decide +kernel
theorem dX8_readsSum_79 : decode cX8_readsSum 79 = .ok (.iconst (-1), 1) := by decide +kernel
theorem dX8_readsSum_80 : decode cX8_readsSum 80 = .ok (.istore 4, 2) := by decide +kernel
theorem dX8_readsSum_82 : decode cX8_readsSum 82 = .ok (.iinc 5 1, 3) := by decide +kernel
theorem dX8_readsSum_85 : decode cX8_readsSum 85 = .ok (.goto (-59), 3) := by decide +kernel
theorem dX8_readsSum_88 : decode cX8_readsSum 88 = .ok (.iload_n 3, 1) := by decide +kernel
theorem dX8_readsSum_89 : decode cX8_readsSum 89 = .ok (.ireturn, 1) := by decide +kernel
theorem dX8_readsExpression_0 : decode cX8_readsExpression 0 = .ok (.aload_n 0, 1) := by decide +kernel
theorem dX8_readsExpression_1 : decode cX8_readsExpression 1 = .ok (.aload_n 1, 1) := by decide +kernel
theorem dX8_readsExpression_2 : decode cX8_readsExpression 2 = .ok (.iload_n 2, 1) := by decide +kernel
theorem dX8_readsExpression_3 : decode cX8_readsExpression 3 = .ok (.invokevirtual 61, 3) := by decide +kernel
theorem dX8_readsExpression_6 : decode cX8_readsExpression 6 = .ok (.ifCond .ne 5, 3) := by decide +kernel
theorem dX8_readsExpression_9 : decode cX8_readsExpression 9 = .ok (.iconst 0, 1) := by decide +kernel
theorem dX8_readsExpression_10 : decode cX8_readsExpression 10 = .ok (.ireturn, 1) := by decide +kernel
theorem dX8_readsExpression_11 : decode cX8_readsExpression 11 = .ok (.aload_n 1, 1) := by decide +kernel
theorem dX8_readsExpression_12 : decode cX8_readsExpression 12 = .ok (.ldc 64, 2) := by decide +kernel
theorem dX8_readsExpression_14 : decode cX8_readsExpression 14 = .ok (.invokevirtual 66, 3) := by decide +kernel
theorem dX8_readsExpression_17 : decode cX8_readsExpression 17 = .ok (.istore_n 3, 1) := by decide +kernel
theorem dX8_readsExpression_18 : decode cX8_readsExpression 18 = .ok (.iload_n 3, 1) := by decide +kernel
theorem dX8_readsExpression_19 : decode cX8_readsExpression 19 = .ok (.ifCond .ge 5, 3) := by decide +kernel
theorem dX8_readsExpression_22 : decode cX8_readsExpression 22 = .ok (.iconst 1, 1) := by decide +kernel
theorem dX8_readsExpression_23 : decode cX8_readsExpression 23 = .ok (.ireturn, 1) := by decide +kernel
theorem dX8_readsExpression_24 : decode cX8_readsExpression 24 = .ok (.aload_n 0, 1) := by decide +kernel
theorem dX8_readsExpression_25 : decode cX8_readsExpression 25 = .ok (.aload_n 1, 1) := by decide +kernel
theorem dX8_readsExpression_26 : decode cX8_readsExpression 26 = .ok (.iload_n 2, 1) := by decide +kernel
theorem dX8_readsExpression_27 : decode cX8_readsExpression 27 = .ok (.invokevirtual 61, 3) := by decide +kernel
theorem dX8_readsExpression_30 : decode cX8_readsExpression 30 = .ok (.ifCond .eq 19, 3) := by decide +kernel
theorem dX8_readsExpression_33 : decode cX8_readsExpression 33 = .ok (.aload_n 0, 1) := by decide +kernel
theorem dX8_readsExpression_34 : decode cX8_readsExpression 34 = .ok (.sipush 2000, 3) := by decide +kernel
theorem dX8_readsExpression_37 : decode cX8_readsExpression 37 = .ok (.iload_n 3, 1) := by decide +kernel
theorem dX8_readsExpression_38 : decode cX8_readsExpression 38 = .ok (.iadd, 1) := by decide +kernel
theorem dX8_readsExpression_39 : decode cX8_readsExpression 39 = .ok (.invokevirtual 70, 3) := by decide +kernel
theorem dX8_readsExpression_42 : decode cX8_readsExpression 42 = .ok (.ifCond .eq 7, 3) := by decide +kernel
theorem dX8_readsExpression_45 : decode cX8_readsExpression 45 = .ok (.iconst 1, 1) := by decide +kernel
theorem dX8_readsExpression_46 : decode cX8_readsExpression 46 = .ok (.goto 4, 3) := by decide +kernel
theorem dX8_readsExpression_49 : decode cX8_readsExpression 49 = .ok (.iconst 0, 1) := by decide +kernel
theorem dX8_readsExpression_50 : decode cX8_readsExpression 50 = .ok (.ireturn, 1) := by decide +kernel
theorem dX8_readsThing_0 : decode cX8_readsThing 0 = .ok (.aload_n 1, 1) := by decide +kernel
theorem dX8_readsThing_1 : decode cX8_readsThing 1 = .ok (.iconst 3, 1) := by decide +kernel
theorem dX8_readsThing_2 : decode cX8_readsThing 2 = .ok (.invokevirtual 91, 3) := by decide +kernel
theorem dX8_readsThing_5 : decode cX8_readsThing 5 = .ok (.istore_n 3, 1) := by decide +kernel
theorem dX8_readsThing_6 : decode cX8_readsThing 6 = .ok (.iload_n 3, 1) := by decide +kernel
theorem dX8_readsThing_7 : decode cX8_readsThing 7 = .ok (.ifCond .lt 9, 3) := by decide +kernel
theorem dX8_readsThing_10 : decode cX8_readsThing 10 = .ok (.aload_n 0, 1) := by decide +kernel
theorem dX8_readsThing_11 : decode cX8_readsThing 11 = .ok (.iload_n 3, 1) := by decide +kernel
theorem dX8_readsThing_12 : decode cX8_readsThing 12 = .ok (.invokevirtual 70, 3) := by decide +kernel
theorem dX8_readsThing_15 : decode cX8_readsThing 15 = .ok (.ireturn, 1) := by decide +kernel
theorem dX8_readsThing_16 : decode cX8_readsThing 16 = .ok (.aload_n 1, 1) := by decide +kernel
theorem dX8_readsThing_17 : decode cX8_readsThing 17 = .ok (.ldc 25, 2) := by decide +kernel
theorem dX8_readsThing_19 : decode cX8_readsThing 19 = .ok (.invokevirtual 66, 3) := by decide +kernel
theorem dX8_readsThing_22 : decode cX8_readsThing 22 = .ok (.istore 4, 2) := by decide +kernel
theorem dX8_readsThing_24 : decode cX8_readsThing 24 = .ok (.iload 4, 2) := by decide +kernel
theorem dX8_readsThing_26 : decode cX8_readsThing 26 = .ok (.ifCond .lt 14, 3) := by decide +kernel
theorem dX8_readsThing_29 : decode cX8_readsThing 29 = .ok (.aload_n 0, 1) := by decide +kernel
theorem dX8_readsThing_30 : decode cX8_readsThing 30 = .ok (.sipush 1000, 3) := by decide +kernel
theorem dX8_readsThing_33 : decode cX8_readsThing 33 = .ok (.iload 4, 2) := by decide +kernel
theorem dX8_readsThing_35 : decode cX8_readsThing 35 = .ok (.iadd, 1) := by decide +kernel
theorem dX8_readsThing_36 : decode cX8_readsThing 36 = .ok (.invokevirtual 70, 3) := by decide +kernel
theorem dX8_readsThing_39 : decode cX8_readsThing 39 = .ok (.ireturn, 1) := by decide +kernel
theorem dX8_readsThing_40 : decode cX8_readsThing 40 = .ok (.iload_n 2, 1) := by decide +kernel
theorem dX8_readsThing_41 : decode cX8_readsThing 41 = .ok (.iconst 4, 1) := by decide +kernel
theorem dX8_readsThing_42 : decode cX8_readsThing 42 = .ok (.if_icmp .ge 12, 3) := by decide +kernel
theorem dX8_readsThing_45 : decode cX8_readsThing 45 = .ok (.aload_n 1, 1) := by decide +kernel
theorem dX8_readsThing_46 : decode cX8_readsThing 46 = .ok (.bipush 40, 2) := by decide +kernel
theorem dX8_readsThing_48 : decode cX8_readsThing 48 = .ok (.invokevirtual 84, 3) := by decide +kernel
theorem dX8_readsThing_51 : decode cX8_readsThing 51 = .ok (.ifCond .ne 5, 3) := by decide +kernel
theorem dX8_readsThing_54 : decode cX8_readsThing 54 = .ok (.iconst 0, 1) := by decide +kernel
theorem dX8_readsThing_55 : decode cX8_readsThing 55 = .ok (.ireturn, 1) := by decide +kernel
theorem dX8_readsThing_56 : decode cX8_readsThing 56 = .ok (.aload_n 0, 1) := by decide +kernel
theorem dX8_readsThing_57 : decode cX8_readsThing 57 = .ok (.aload_n 1, 1) := by decide +kernel
theorem dX8_readsThing_58 : decode cX8_readsThing 58 = .ok (.iload_n 2, 1) := by decide +kernel
theorem dX8_readsThing_59 : decode cX8_readsThing 59 = .ok (.iconst 1, 1) := by decide +kernel
theorem dX8_readsThing_60 : decode cX8_readsThing 60 = .ok (.iadd, 1) := by decide +kernel
theorem dX8_readsThing_61 : decode cX8_readsThing 61 = .ok (.invokevirtual 48, 3) := by decide +kernel
theorem dX8_readsThing_64 : decode cX8_readsThing 64 = .ok (.ifCond .eq 16, 3) := by decide +kernel
theorem dX8_readsThing_67 : decode cX8_readsThing 67 = .ok (.aload_n 1, 1) := by decide +kernel
theorem dX8_readsThing_68 : decode cX8_readsThing 68 = .ok (.bipush 41, 2) := by decide +kernel
theorem dX8_readsThing_70 : decode cX8_readsThing 70 = .ok (.invokevirtual 84, 3) := by decide +kernel
theorem dX8_readsThing_73 : decode cX8_readsThing 73 = .ok (.ifCond .eq 7, 3) := by decide +kernel
theorem dX8_readsThing_76 : decode cX8_readsThing 76 = .ok (.iconst 1, 1) := by decide +kernel
theorem dX8_readsThing_77 : decode cX8_readsThing 77 = .ok (.goto 4, 3) := by decide +kernel
theorem dX8_readsThing_80 : decode cX8_readsThing 80 = .ok (.iconst 0, 1) := by decide +kernel
theorem dX8_readsThing_81 : decode cX8_readsThing 81 = .ok (.ireturn, 1) := by decide +kernel
theorem dX8_read_0 : decode cX8_read 0 = .ok (.aload_n 1, 1) := by decide +kernel
theorem dX8_read_1 : decode cX8_read 1 = .ok (.bipush 40, 2) := by decide +kernel
theorem dX8_read_3 : decode cX8_read 3 = .ok (.invokevirtual 38, 3) := by decide +kernel
theorem dX8_read_6 : decode cX8_read 6 = .ok (.aload_n 0, 1) := by decide +kernel
theorem dX8_read_7 : decode cX8_read 7 = .ok (.iconst 0, 1) := by decide +kernel
theorem dX8_read_8 : decode cX8_read 8 = .ok (.putfield 22, 3) := by decide +kernel
theorem dX8_read_11 : decode cX8_read 11 = .ok (.aload_n 1, 1) := by decide +kernel
theorem dX8_read_12 : decode cX8_read 12 = .ok (.invokevirtual 44, 3) := by decide +kernel
theorem dX8_read_15 : decode cX8_read 15 = .ok (.ifCond .ne 24, 3) := by decide +kernel
theorem dX8_read_18 : decode cX8_read 18 = .ok (.aload_n 0, 1) := by decide +kernel
theorem dX8_read_19 : decode cX8_read 19 = .ok (.aload_n 1, 1) := by decide +kernel
theorem dX8_read_20 : decode cX8_read 20 = .ok (.iconst 0, 1) := by decide +kernel
theorem dX8_read_21 : decode cX8_read 21 = .ok (.invokevirtual 48, 3) := by decide +kernel
theorem dX8_read_24 : decode cX8_read 24 = .ok (.ifCond .eq 10, 3) := by decide +kernel
theorem dX8_read_27 : decode cX8_read 27 = .ok (.aload_n 1, 1) := by decide +kernel
theorem dX8_read_28 : decode cX8_read 28 = .ok (.invokevirtual 44, 3) := by decide +kernel
theorem dX8_read_31 : decode cX8_read 31 = .ok (.ifCond .ne 8, 3) := by decide +kernel
theorem dX8_read_34 : decode cX8_read 34 = .ok (.aload_n 1, 1) := by decide +kernel
theorem dX8_read_35 : decode cX8_read 35 = .ok (.invokevirtual 52, 3) := by decide +kernel
theorem dX8_read_38 : decode cX8_read 38 = .ok (.ireturn, 1) := by decide +kernel
theorem dX8_read_39 : decode cX8_read 39 = .ok (.aload_n 0, 1) := by decide +kernel
theorem dX8_read_40 : decode cX8_read 40 = .ok (.getfield 19, 3) := by decide +kernel
theorem dX8_read_43 : decode cX8_read 43 = .ok (.iconst 0, 1) := by decide +kernel
theorem dX8_read_44 : decode cX8_read 44 = .ok (.aload_n 0, 1) := by decide +kernel
theorem dX8_read_45 : decode cX8_read 45 = .ok (.getfield 11, 3) := by decide +kernel
theorem dX8_read_48 : decode cX8_read 48 = .ok (.iconst 0, 1) := by decide +kernel
theorem dX8_read_49 : decode cX8_read 49 = .ok (.aload_n 0, 1) := by decide +kernel
theorem dX8_read_50 : decode cX8_read 50 = .ok (.getfield 22, 3) := by decide +kernel
theorem dX8_read_53 : decode cX8_read 53 = .ok (.invokestatic 55, 3) := by decide +kernel
theorem dX8_read_56 : decode cX8_read 56 = .ok (.aload_n 0, 1) := by decide +kernel
theorem dX8_read_57 : decode cX8_read 57 = .ok (.aload_n 0, 1) := by decide +kernel
theorem dX8_read_58 : decode cX8_read 58 = .ok (.getfield 22, 3) := by decide +kernel
theorem dX8_read_61 : decode cX8_read 61 = .ok (.putfield 15, 3) := by decide +kernel
theorem dX8_read_64 : decode cX8_read 64 = .ok (.iconst 0, 1) := by decide +kernel
theorem dX8_read_65 : decode cX8_read 65 = .ok (.ireturn, 1) := by decide +kernel
theorem dX11_rule_0 : decode cX11_rule 0 = .ok (.aload_n 0, 1) := by decide +kernel
theorem dX11_rule_1 : decode cX11_rule 1 = .ok (.getfield 49, 3) := by decide +kernel
theorem dX11_rule_4 : decode cX11_rule 4 = .ok (.aload_n 0, 1) := by decide +kernel
theorem dX11_rule_5 : decode cX11_rule 5 = .ok (.getfield 10, 3) := by decide +kernel
theorem dX11_rule_8 : decode cX11_rule 8 = .ok (.invokevirtual 144, 3) := by decide +kernel
theorem dX11_rule_11 : decode cX11_rule 11 = .ok (.istore_n 1, 1) := by decide +kernel
theorem dX11_rule_12 : decode cX11_rule 12 = .ok (.aload_n 0, 1) := by decide +kernel
theorem dX11_rule_13 : decode cX11_rule 13 = .ok (.getfield 10, 3) := by decide +kernel
