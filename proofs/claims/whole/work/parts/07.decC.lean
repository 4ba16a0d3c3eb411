theorem dX6_init_0 : decode cX6_init 0 = .ok (.aload_n 0, 1) := by decide +kernel
theorem dX6_init_1 : decode cX6_init 1 = .ok (.invokespecial 1, 3) := by decide +kernel
theorem dX6_init_4 : decode cX6_init 4 = .ok (.aload_n 0, 1) := by decide +kernel
theorem dX6_init_5 : decode cX6_init 5 = .ok (.bipush 120, 2) := by decide +kernel
theorem dX6_init_7 : decode cX6_init 7 = .ok (.newarray .int, 2) := by decide +kernel
theorem dX6_init_9 : decode cX6_init 9 = .ok (.putfield 7, 3) := by decide +kernel
theorem dX6_init_12 : decode cX6_init 12 = .ok (.aload_n 0, 1) := by decide +kernel
theorem dX6_init_13 : decode cX6_init 13 = .ok (.sipush 187, 3) := by decide +kernel
theorem dX6_init_16 : decode cX6_init 16 = .ok (.newarray .int, 2) := by decide +kernel
theorem dX6_init_18 : decode cX6_init 18 = .ok (.putfield 13, 3) := by decide +kernel
theorem dX6_init_21 : decode cX6_init 21 = .ok (.aload_n 0, 1) := by decide +kernel
theorem dX6_init_22 : decode cX6_init 22 = .ok (.sipush 187, 3) := by decide +kernel
theorem dX6_init_25 : decode cX6_init 25 = .ok (.newarray .int, 2) := by decide +kernel
theorem dX6_init_27 : decode cX6_init 27 = .ok (.putfield 16, 3) := by decide +kernel
theorem dX6_init_30 : decode cX6_init 30 = .ok (.aload_n 0, 1) := by decide +kernel
theorem dX6_init_31 : decode cX6_init 31 = .ok (.sipush 187, 3) := by decide +kernel
theorem dX6_init_34 : decode cX6_init 34 = .ok (.newarray .int, 2) := by decide +kernel
theorem dX6_init_36 : decode cX6_init 36 = .ok (.putfield 19, 3) := by decide +kernel
theorem dX6_init_39 : decode cX6_init 39 = .ok (.aload_n 0, 1) := by decide +kernel
theorem dX6_init_40 : decode cX6_init 40 = .ok (.sipush 2618, 3) := by decide +kernel
theorem dX6_init_43 : decode cX6_init 43 = .ok (.newarray .int, 2) := by decide +kernel
theorem dX6_init_45 : decode cX6_init 45 = .ok (.putfield 22, 3) := by decide +kernel
theorem dX6_init_48 : decode cX6_init 48 = .ok (.aload_n 0, 1) := by decide +kernel
theorem dX6_init_49 : decode cX6_init 49 = .ok (.sipush 374, 3) := by decide +kernel
theorem dX6_init_52 : decode cX6_init 52 = .ok (.newarray .int, 2) := by decide +kernel
theorem dX6_init_54 : decode cX6_init 54 = .ok (.putfield 25, 3) := by decide +kernel
theorem dX6_init_57 : decode cX6_init 57 = .ok (.aload_n 0, 1) := by decide +kernel
theorem dX6_init_58 : decode cX6_init 58 = .ok (.iconst 2, 1) := by decide +kernel
theorem dX6_init_59 : decode cX6_init 59 = .ok (.newarray .boolean, 2) := by decide +kernel
theorem dX6_init_61 : decode cX6_init 61 = .ok (.putfield 28, 3) := by decide +kernel
theorem dX6_init_64 : decode cX6_init 64 = .ok (.aload_n 0, 1) := by decide +kernel
theorem dX6_init_65 : decode cX6_init 65 = .ok (.getfield 13, 3) := by decide +kernel
theorem dX6_init_68 : decode cX6_init 68 = .ok (.iconst 1, 1) := by decide +kernel
theorem dX6_init_69 : decode cX6_init 69 = .ok (.invokestatic 32, 3) := by decide +kernel
theorem dX6_init_72 : decode cX6_init 72 = .ok (.aload_n 0, 1) := by decide +kernel
theorem dX6_init_73 : decode cX6_init 73 = .ok (.getfield 13, 3) := by decide +kernel
theorem dX6_init_76 : decode cX6_init 76 = .ok (.invokestatic 36, 3) := by decide +kernel
theorem dX6_init_79 : decode cX6_init 79 = .ok (.return_, 1) := by decide +kernel
theorem dX6_thrown_0 : decode cX6_thrown 0 = .ok (.aload_n 0, 1) := by decide +kernel
theorem dX6_thrown_1 : decode cX6_thrown 1 = .ok (.getfield 40, 3) := by decide +kernel
theorem dX6_thrown_4 : decode cX6_thrown 4 = .ok (.ireturn, 1) := by decide +kernel
theorem dX6_refused_0 : decode cX6_refused 0 = .ok (.aload_n 0, 1) := by decide +kernel
theorem dX6_refused_1 : decode cX6_refused 1 = .ok (.iload_n 1, 1) := by decide +kernel
theorem dX6_refused_2 : decode cX6_refused 2 = .ok (.putfield 40, 3) := by decide +kernel
theorem dX6_refused_5 : decode cX6_refused 5 = .ok (.iload_n 1, 1) := by decide +kernel
theorem dX6_refused_6 : decode cX6_refused 6 = .ok (.ifCond .le 7, 3) := by decide +kernel
theorem dX6_refused_9 : decode cX6_refused 9 = .ok (.iconst 1, 1) := by decide +kernel
theorem dX6_refused_10 : decode cX6_refused 10 = .ok (.goto 4, 3) := by decide +kernel
theorem dX6_refused_13 : decode cX6_refused 13 = .ok (.iconst 0, 1) := by decide +kernel
theorem dX6_refused_14 : decode cX6_refused 14 = .ok (.ireturn, 1) := by decide +kernel
theorem dX6_in_0 : decode cX6_in 0 = .ok (.lload_n 0, 1) := by decide +kernel
theorem dX6_in_1 : decode cX6_in 1 = .ok (.lload_n 2, 1) := by decide +kernel
theorem dX6_in_2 : decode cX6_in 2 = .ok (.lcmp, 1) := by decide +kernel
theorem dX6_in_3 : decode cX6_in 3 = .ok (.ifCond .lt 14, 3) := by decide +kernel
theorem dX6_in_6 : decode cX6_in 6 = .ok (.lload_n 0, 1) := by decide +kernel
theorem dX6_in_7 : decode cX6_in 7 = .ok (.lload 4, 2) := by decide +kernel
theorem dX6_in_9 : decode cX6_in 9 = .ok (.lcmp, 1) := by decide +kernel
theorem dX6_in_10 : decode cX6_in 10 = .ok (.ifCond .gt 7, 3) := by decide +kernel
theorem dX6_in_13 : decode cX6_in 13 = .ok (.iconst 1, 1) := by decide +kernel
theorem dX6_in_14 : decode cX6_in 14 = .ok (.goto 4, 3) := by decide +kernel
theorem dX6_in_17 : decode cX6_in 17 = .ok (.iconst 0, 1) := by decide +kernel
theorem dX6_in_18 : decode cX6_in 18 = .ok (.ireturn, 1) := by decide +kernel
theorem dX6_copyState_0 : decode cX6_copyState 0 = .ok (.iconst 0, 1) := by decide +kernel
theorem dX6_copyState_1 : decode cX6_copyState 1 = .ok (.istore 4, 2) := by decide +kernel
theorem dX6_copyState_3 : decode cX6_copyState 3 = .ok (.iload 4, 2) := by decide +kernel
theorem dX6_copyState_5 : decode cX6_copyState 5 = .ok (.sipush 187, 3) := by decide +kernel
theorem dX6_copyState_8 : decode cX6_copyState 8 = .ok (.if_icmp .ge 21, 3) := by decide +kernel
theorem dX6_copyState_11 : decode cX6_copyState 11 = .ok (.aload_n 2, 1) := by decide +kernel
theorem dX6_copyState_12 : decode cX6_copyState 12 = .ok (.iload_n 3, 1) := by decide +kernel
theorem dX6_copyState_13 : decode cX6_copyState 13 = .ok (.iload 4, 2) := by decide +kernel
theorem dX6_copyState_15 : decode cX6_copyState 15 = .ok (.iadd, 1) := by decide +kernel
theorem dX6_copyState_16 : decode cX6_copyState 16 = .ok (.aload_n 0, 1) := by decide +kernel
theorem dX6_copyState_17 : decode cX6_copyState 17 = .ok (.iload_n 1, 1) := by decide +kernel
theorem dX6_copyState_18 : decode cX6_copyState 18 = .ok (.iload 4, 2) := by decide +kernel
theorem dX6_copyState_20 : decode cX6_copyState 20 = .ok (.iadd, 1) := by decide +kernel
theorem dX6_copyState_21 : decode cX6_copyState 21 = .ok (.iaload, 1) := by decide +kernel
theorem dX6_copyState_22 : decode cX6_copyState 22 = .ok (.iastore, 1) := by decide +kernel
theorem dX6_copyState_23 : decode cX6_copyState 23 = .ok (.iinc 4 1, 3) := by decide +kernel
theorem dX6_copyState_26 : decode cX6_copyState 26 = .ok (.goto (-23), 3) := by decide +kernel
theorem dX6_copyState_29 : decode cX6_copyState 29 = .ok (.return_, 1) := by decide +kernel
theorem dX6_firstSettings_0 : decode cX6_firstSettings 0 = .ok (.aload_n 0, 1) := by decide +kernel
theorem dX6_firstSettings_1 : decode cX6_firstSettings 1 = .ok (.iconst 3, 1) := by decide +kernel
theorem dX6_firstSettings_2 : decode cX6_firstSettings 2 = .ok (.iconst 3, 1) := by decide +kernel
theorem dX6_firstSettings_3 : decode cX6_firstSettings 3 = .ok (.iastore, 1) := by decide +kernel
theorem dX6_firstSettings_4 : decode cX6_firstSettings 4 = .ok (.aload_n 0, 1) := by decide +kernel
theorem dX6_firstSettings_5 : decode cX6_firstSettings 5 = .ok (.iconst 4, 1) := by decide +kernel
theorem dX6_firstSettings_6 : decode cX6_firstSettings 6 = .ok (.bipush 6, 2) := by decide +kernel
theorem dX6_firstSettings_8 : decode cX6_firstSettings 8 = .ok (.iastore, 1) := by decide +kernel
theorem dX6_firstSettings_9 : decode cX6_firstSettings 9 = .ok (.aload_n 0, 1) := by decide +kernel
theorem dX6_firstSettings_10 : decode cX6_firstSettings 10 = .ok (.iconst 5, 1) := by decide +kernel
theorem dX6_firstSettings_11 : decode cX6_firstSettings 11 = .ok (.bipush 20, 2) := by decide +kernel
theorem dX6_firstSettings_13 : decode cX6_firstSettings 13 = .ok (.iastore, 1) := by decide +kernel
theorem dX6_firstSettings_14 : decode cX6_firstSettings 14 = .ok (.aload_n 0, 1) := by decide +kernel
theorem dX6_firstSettings_15 : decode cX6_firstSettings 15 = .ok (.bipush 6, 2) := by decide +kernel
theorem dX6_firstSettings_17 : decode cX6_firstSettings 17 = .ok (.iconst 3, 1) := by decide +kernel
theorem dX6_firstSettings_18 : decode cX6_firstSettings 18 = .ok (.iastore, 1) := by decide +kernel
theorem dX6_firstSettings_19 : decode cX6_firstSettings 19 = .ok (.return_, 1) := by decide +kernel
theorem dX6_clear_0 : decode cX6_clear 0 = .ok (.iconst 0, 1) := by decide +kernel
theorem dX6_clear_1 : decode cX6_clear 1 = .ok (.istore_n 2, 1) := by decide +kernel
theorem dX6_clear_2 : decode cX6_clear 2 = .ok (.iload_n 2, 1) := by decide +kernel
theorem dX6_clear_3 : decode cX6_clear 3 = .ok (.sipush 187, 3) := by decide +kernel
theorem dX6_clear_6 : decode cX6_clear 6 = .ok (.if_icmp .ge 30, 3) := by decide +kernel
theorem dX6_clear_9 : decode cX6_clear 9 = .ok (.aload_n 0, 1) := by decide +kernel
theorem dX6_clear_10 : decode cX6_clear 10 = .ok (.iload_n 2, 1) := by decide +kernel
theorem dX6_clear_11 : decode cX6_clear 11 = .ok (.iload_n 2, 1) := by decide +kernel
theorem dX6_clear_12 : decode cX6_clear 12 = .ok (.iconst 3, 1) := by decide +kernel
theorem dX6_clear_13 : decode cX6_clear 13 = .ok (.if_icmp .lt 15, 3) := by decide +kernel
theorem dX6_clear_16 : decode cX6_clear 16 = .ok (.iload_n 2, 1) := by decide +kernel
theorem dX6_clear_17 : decode cX6_clear 17 = .ok (.bipush 7, 2) := by decide +kernel
theorem dX6_clear_19 : decode cX6_clear 19 = .ok (.if_icmp .ge 9, 3) := by decide +kernel
theorem dX6_clear_22 : decode cX6_clear 22 = .ok (.aload_n 0, 1) := by decide +kernel
theorem dX6_clear_23 : decode cX6_clear 23 = .ok (.iload_n 2, 1) := by decide +kernel
theorem dX6_clear_24 : decode cX6_clear 24 = .ok (.iaload, 1) := by decide +kernel
theorem dX6_clear_25 : decode cX6_clear 25 = .ok (.goto 4, 3) := by decide +kernel
theorem dX6_clear_28 : decode cX6_clear 28 = .ok (.iconst 0, 1) := by decide +kernel
theorem dX6_clear_29 : decode cX6_clear 29 = .ok (.iastore, 1) := by decide +kernel
theorem dX6_clear_30 : decode cX6_clear 30 = .ok (.iinc 2 1, 3) := by decide +kernel
theorem dX6_clear_33 : decode cX6_clear 33 = .ok (.goto (-31), 3) := by decide +kernel
theorem dX6_clear_36 : decode cX6_clear 36 = .ok (.aload_n 0, 1) := by decide +kernel
theorem dX6_clear_37 : decode cX6_clear 37 = .ok (.iconst 0, 1) := by decide +kernel
theorem dX6_clear_38 : decode cX6_clear 38 = .ok (.iload_n 1, 1) := by decide +kernel
theorem dX6_clear_39 : decode cX6_clear 39 = .ok (.iastore, 1) := by decide +kernel
theorem dX6_clear_40 : decode cX6_clear 40 = .ok (.iconst 0, 1) := by decide +kernel
theorem dX6_clear_41 : decode cX6_clear 41 = .ok (.istore_n 2, 1) := by decide +kernel
theorem dX6_clear_42 : decode cX6_clear 42 = .ok (.iload_n 2, 1) := by decide +kernel
theorem dX6_clear_43 : decode cX6_clear 43 = .ok (.iconst 4, 1) := by decide +kernel
theorem dX6_clear_44 : decode cX6_clear 44 = .ok (.if_icmp .ge 24, 3) := by decide +kernel
theorem dX6_clear_47 : decode cX6_clear 47 = .ok (.aload_n 0, 1) := by decide +kernel
theorem dX6_clear_48 : decode cX6_clear 48 = .ok (.iload_n 2, 1) := by decide +kernel
theorem dX6_clear_49 : decode cX6_clear 49 = .ok (.iconst 1, 1) := by decide +kernel
theorem dX6_clear_50 : decode cX6_clear 50 = .ok (.iconst 1, 1) := by decide +kernel
theorem dX6_clear_51 : decode cX6_clear 51 = .ok (.invokestatic 44, 3) := by decide +kernel
theorem dX6_clear_54 : decode cX6_clear 54 = .ok (.aload_n 0, 1) := by decide +kernel
theorem dX6_clear_55 : decode cX6_clear 55 = .ok (.iload_n 2, 1) := by decide +kernel
theorem dX6_clear_56 : decode cX6_clear 56 = .ok (.bipush 11, 2) := by decide +kernel
theorem dX6_clear_58 : decode cX6_clear 58 = .ok (.iconst (-1), 1) := by decide +kernel
theorem dX6_clear_59 : decode cX6_clear 59 = .ok (.invokestatic 44, 3) := by decide +kernel
theorem dX6_clear_62 : decode cX6_clear 62 = .ok (.iinc 2 1, 3) := by decide +kernel
theorem dX6_clear_65 : decode cX6_clear 65 = .ok (.goto (-23), 3) := by decide +kernel
theorem dX6_clear_68 : decode cX6_clear 68 = .ok (.return_, 1) := by decide +kernel
theorem dX6_of_0 : decode cX6_of 0 = .ok (.aload_n 0, 1) := by decide +kernel
theorem dX6_of_1 : decode cX6_of 1 = .ok (.bipush 31, 2) := by decide +kernel
theorem dX6_of_3 : decode cX6_of 3 = .ok (.bipush 39, 2) := by decide +kernel
theorem dX6_of_5 : decode cX6_of 5 = .ok (.iload_n 1, 1) := by decide +kernel
theorem dX6_of_6 : decode cX6_of 6 = .ok (.imul, 1) := by decide +kernel
theorem dX6_of_7 : decode cX6_of 7 = .ok (.iadd, 1) := by decide +kernel
theorem dX6_of_8 : decode cX6_of 8 = .ok (.iload_n 2, 1) := by decide +kernel
theorem dX6_of_9 : decode cX6_of 9 = .ok (.iadd, 1) := by decide +kernel
theorem dX6_of_10 : decode cX6_of 10 = .ok (.iaload, 1) := by decide +kernel
theorem dX6_of_11 : decode cX6_of 11 = .ok (.ireturn, 1) := by decide +kernel
theorem dX6_lay_0 : decode cX6_lay 0 = .ok (.aload_n 0, 1) := by decide +kernel
theorem dX6_lay_1 : decode cX6_lay 1 = .ok (.bipush 31, 2) := by decide +kernel
theorem dX6_lay_3 : decode cX6_lay 3 = .ok (.bipush 39, 2) := by decide +kernel
theorem dX6_lay_5 : decode cX6_lay 5 = .ok (.iload_n 1, 1) := by decide +kernel
theorem dX6_lay_6 : decode cX6_lay 6 = .ok (.imul, 1) := by decide +kernel
theorem dX6_lay_7 : decode cX6_lay 7 = .ok (.iadd, 1) := by decide +kernel
theorem dX6_lay_8 : decode cX6_lay 8 = .ok (.iload_n 2, 1) := by decide +kernel
theorem dX6_lay_9 : decode cX6_lay 9 = .ok (.iadd, 1) := by decide +kernel
theorem dX6_lay_10 : decode cX6_lay 10 = .ok (.iload_n 3, 1) := by decide +kernel
theorem dX6_lay_11 : decode cX6_lay 11 = .ok (.iastore, 1) := by decide +kernel
theorem dX6_lay_12 : decode cX6_lay 12 = .ok (.return_, 1) := by decide +kernel
theorem dX6_isWriter_0 : decode cX6_isWriter 0 = .ok (.iload_n 1, 1) := by decide +kernel
theorem dX6_isWriter_1 : decode cX6_isWriter 1 = .ok (.i2l, 1) := by decide +kernel
theorem dX6_isWriter_2 : decode cX6_isWriter 2 = .ok (.lconst 0, 1) := by decide +kernel
theorem dX6_isWriter_3 : decode cX6_isWriter 3 = .ok (.aload_n 0, 1) := by decide +kernel
theorem dX6_isWriter_4 : decode cX6_isWriter 4 = .ok (.iconst 0, 1) := by decide +kernel
theorem dX6_isWriter_5 : decode cX6_isWriter 5 = .ok (.iaload, 1) := by decide +kernel
theorem dX6_isWriter_6 : decode cX6_isWriter 6 = .ok (.iconst 1, 1) := by decide +kernel
theorem dX6_isWriter_7 : decode cX6_isWriter 7 = .ok (.isub, 1) := by decide +kernel
theorem dX6_isWriter_8 : decode cX6_isWriter 8 = .ok (.i2l, 1) := by decide +kernel
theorem dX6_isWriter_9 : decode cX6_isWriter 9 = .ok (.invokestatic 48, 3) := by decide +kernel
theorem dX6_isWriter_12 : decode cX6_isWriter 12 = .ok (.ireturn, 1) := by decide +kernel
theorem dX6_isNote_0 : decode cX6_isNote 0 = .ok (.iload_n 0, 1) := by decide +kernel
theorem dX6_isNote_1 : decode cX6_isNote 1 = .ok (.i2l, 1) := by decide +kernel
theorem dX6_isNote_2 : decode cX6_isNote 2 = .ok (.lconst 1, 1) := by decide +kernel
theorem dX6_isNote_3 : decode cX6_isNote 3 = .ok (.ldc2_w 52, 3) := by decide +kernel
theorem dX6_isNote_6 : decode cX6_isNote 6 = .ok (.invokestatic 48, 3) := by decide +kernel
theorem dX6_isNote_9 : decode cX6_isNote 9 = .ok (.ireturn, 1) := by decide +kernel
theorem dX6_sum_0 : decode cX6_sum 0 = .ok (.iconst 0, 1) := by decide +kernel
theorem dX6_sum_1 : decode cX6_sum 1 = .ok (.istore_n 2, 1) := by decide +kernel
theorem dX6_sum_2 : decode cX6_sum 2 = .ok (.iconst 0, 1) := by decide +kernel
theorem dX6_sum_3 : decode cX6_sum 3 = .ok (.istore_n 3, 1) := by decide +kernel
theorem dX6_sum_4 : decode cX6_sum 4 = .ok (.iload_n 3, 1) := by decide +kernel
theorem dX6_sum_5 : decode cX6_sum 5 = .ok (.aload_n 0, 1) := by decide +kernel
theorem dX6_sum_6 : decode cX6_sum 6 = .ok (.iconst 0, 1) := by decide +kernel
theorem dX6_sum_7 : decode cX6_sum 7 = .ok (.iaload, 1) := by decide +kernel
theorem dX6_sum_8 : decode cX6_sum 8 = .ok (.if_icmp .ge 18, 3) := by decide +kernel
theorem dX6_sum_11 : decode cX6_sum 11 = .ok (.iload_n 2, 1) := by decide +kernel
theorem dX6_sum_12 : decode cX6_sum 12 = .ok (.aload_n 0, 1) := by decide +kernel
theorem dX6_sum_13 : decode cX6_sum 13 = .ok (.iload_n 3, 1) := by decide +kernel
theorem dX6_sum_14 : decode cX6_sum 14 = .ok (.iload_n 1, 1) := by decide +kernel
theorem dX6_sum_15 : decode cX6_sum 15 = .ok (.invokestatic 54, 3) := by decide +kernel
theorem dX6_sum_18 : decode cX6_sum 18 = .ok (.iadd, 1) := by decide +kernel
theorem dX6_sum_19 : decode cX6_sum 19 = .ok (.istore_n 2, 1) := by decide +kernel
theorem dX6_sum_20 : decode cX6_sum 20 = .ok (.iinc 3 1, 3) := by decide +kernel
theorem dX6_sum_23 : decode cX6_sum 23 = .ok (.goto (-19), 3) := by decide +kernel
theorem dX6_sum_26 : decode cX6_sum 26 = .ok (.iload_n 2, 1) := by decide +kernel
theorem dX6_sum_27 : decode cX6_sum 27 = .ok (.ireturn, 1) := by decide +kernel
theorem dX6_letterGoes_0 : decode cX6_letterGoes 0 = .ok (.aload_n 0, 1) := by decide +kernel
theorem dX6_letterGoes_1 : decode cX6_letterGoes 1 = .ok (.iconst 1, 1) := by decide +kernel
theorem dX6_letterGoes_2 : decode cX6_letterGoes 2 = .ok (.iaload, 1) := by decide +kernel
theorem dX6_letterGoes_3 : decode cX6_letterGoes 3 = .ok (.aload_n 0, 1) := by decide +kernel
theorem dX6_letterGoes_4 : decode cX6_letterGoes 4 = .ok (.iconst 3, 1) := by decide +kernel
theorem dX6_letterGoes_5 : decode cX6_letterGoes 5 = .ok (.iaload, 1) := by decide +kernel
theorem dX6_letterGoes_6 : decode cX6_letterGoes 6 = .ok (.iadd, 1) := by decide +kernel
theorem dX6_letterGoes_7 : decode cX6_letterGoes 7 = .ok (.istore_n 3, 1) := by decide +kernel
theorem dX6_letterGoes_8 : decode cX6_letterGoes 8 = .ok (.iload_n 3, 1) := by decide +kernel
theorem dX6_letterGoes_9 : decode cX6_letterGoes 9 = .ok (.aload_n 0, 1) := by decide +kernel
theorem dX6_letterGoes_10 : decode cX6_letterGoes 10 = .ok (.iload_n 1, 1) := by decide +kernel
theorem dX6_letterGoes_11 : decode cX6_letterGoes 11 = .ok (.bipush 7, 2) := by decide +kernel
theorem dX6_letterGoes_13 : decode cX6_letterGoes 13 = .ok (.invokestatic 54, 3) := by decide +kernel
theorem dX6_letterGoes_16 : decode cX6_letterGoes 16 = .ok (.if_icmp .ge 13, 3) := by decide +kernel
theorem dX6_letterGoes_19 : decode cX6_letterGoes 19 = .ok (.aload_n 0, 1) := by decide +kernel
theorem dX6_letterGoes_20 : decode cX6_letterGoes 20 = .ok (.iload_n 1, 1) := by decide +kernel
theorem dX6_letterGoes_21 : decode cX6_letterGoes 21 = .ok (.bipush 7, 2) := by decide +kernel
theorem dX6_letterGoes_23 : decode cX6_letterGoes 23 = .ok (.invokestatic 54, 3) := by decide +kernel
theorem dX6_letterGoes_26 : decode cX6_letterGoes 26 = .ok (.goto 4, 3) := by decide +kernel
theorem dX6_letterGoes_29 : decode cX6_letterGoes 29 = .ok (.iload_n 3, 1) := by decide +kernel
theorem dX6_letterGoes_30 : decode cX6_letterGoes 30 = .ok (.istore_n 3, 1) := by decide +kernel
theorem dX6_letterGoes_31 : decode cX6_letterGoes 31 = .ok (.aload_n 0, 1) := by decide +kernel
theorem dX6_letterGoes_32 : decode cX6_letterGoes 32 = .ok (.iload_n 1, 1) := by decide +kernel
theorem dX6_letterGoes_33 : decode cX6_letterGoes 33 = .ok (.bipush 6, 2) := by decide +kernel
theorem dX6_letterGoes_35 : decode cX6_letterGoes 35 = .ok (.invokestatic 54, 3) := by decide +kernel
theorem dX6_letterGoes_38 : decode cX6_letterGoes 38 = .ok (.istore 4, 2) := by decide +kernel
theorem dX6_letterGoes_40 : decode cX6_letterGoes 40 = .ok (.aload_n 0, 1) := by decide +kernel
theorem dX6_letterGoes_41 : decode cX6_letterGoes 41 = .ok (.iload_n 1, 1) := by decide +kernel
theorem dX6_letterGoes_42 : decode cX6_letterGoes 42 = .ok (.bipush 15, 2) := by decide +kernel
theorem dX6_letterGoes_44 : decode cX6_letterGoes 44 = .ok (.iconst 2, 1) := by decide +kernel
theorem dX6_letterGoes_45 : decode cX6_letterGoes 45 = .ok (.iload 4, 2) := by decide +kernel
theorem dX6_letterGoes_47 : decode cX6_letterGoes 47 = .ok (.imul, 1) := by decide +kernel
theorem dX6_letterGoes_48 : decode cX6_letterGoes 48 = .ok (.iadd, 1) := by decide +kernel
theorem dX6_letterGoes_49 : decode cX6_letterGoes 49 = .ok (.iload_n 2, 1) := by decide +kernel
theorem dX6_letterGoes_50 : decode cX6_letterGoes 50 = .ok (.invokestatic 44, 3) := by decide +kernel
theorem dX6_letterGoes_53 : decode cX6_letterGoes 53 = .ok (.aload_n 0, 1) := by decide +kernel
theorem dX6_letterGoes_54 : decode cX6_letterGoes 54 = .ok (.iload_n 1, 1) := by decide +kernel
theorem dX6_letterGoes_55 : decode cX6_letterGoes 55 = .ok (.bipush 15, 2) := by decide +kernel
theorem dX6_letterGoes_57 : decode cX6_letterGoes 57 = .ok (.iconst 2, 1) := by decide +kernel
theorem dX6_letterGoes_58 : decode cX6_letterGoes 58 = .ok (.iload 4, 2) := by decide +kernel
theorem dX6_letterGoes_60 : decode cX6_letterGoes 60 = .ok (.imul, 1) := by decide +kernel
theorem dX6_letterGoes_61 : decode cX6_letterGoes 61 = .ok (.iadd, 1) := by decide +kernel
theorem dX6_letterGoes_62 : decode cX6_letterGoes 62 = .ok (.iconst 1, 1) := by decide +kernel
theorem dX6_letterGoes_63 : decode cX6_letterGoes 63 = .ok (.iadd, 1) := by decide +kernel
theorem dX6_letterGoes_64 : decode cX6_letterGoes 64 = .ok (.iload_n 3, 1) := by decide +kernel
theorem dX6_letterGoes_65 : decode cX6_letterGoes 65 = .ok (.invokestatic 44, 3) := by decide +kernel
theorem dX6_letterGoes_68 : decode cX6_letterGoes 68 = .ok (.aload_n 0, 1) := by decide +kernel
theorem dX6_letterGoes_69 : decode cX6_letterGoes 69 = .ok (.iload_n 1, 1) := by decide +kernel
theorem dX6_letterGoes_70 : decode cX6_letterGoes 70 = .ok (.bipush 6, 2) := by decide +kernel
theorem dX6_letterGoes_72 : decode cX6_letterGoes 72 = .ok (.iload 4, 2) := by decide +kernel
theorem dX6_letterGoes_74 : decode cX6_letterGoes 74 = .ok (.iconst 1, 1) := by decide +kernel
theorem dX6_letterGoes_75 : decode cX6_letterGoes 75 = .ok (.iadd, 1) := by decide +kernel
theorem dX6_letterGoes_76 : decode cX6_letterGoes 76 = .ok (.invokestatic 44, 3) := by decide +kernel
theorem dX6_letterGoes_79 : decode cX6_letterGoes 79 = .ok (.aload_n 0, 1) := by decide +kernel
theorem dX6_letterGoes_80 : decode cX6_letterGoes 80 = .ok (.iload_n 1, 1) := by decide +kernel
theorem dX6_letterGoes_81 : decode cX6_letterGoes 81 = .ok (.bipush 7, 2) := by decide +kernel
theorem dX6_letterGoes_83 : decode cX6_letterGoes 83 = .ok (.iload_n 3, 1) := by decide +kernel
theorem dX6_letterGoes_84 : decode cX6_letterGoes 84 = .ok (.invokestatic 44, 3) := by decide +kernel
theorem dX6_letterGoes_87 : decode cX6_letterGoes 87 = .ok (.aload_n 0, 1) := by decide +kernel
theorem dX6_letterGoes_88 : decode cX6_letterGoes 88 = .ok (.iload_n 1, 1) := by decide +kernel
theorem dX6_letterGoes_89 : decode cX6_letterGoes 89 = .ok (.iconst 3, 1) := by decide +kernel
theorem dX6_letterGoes_90 : decode cX6_letterGoes 90 = .ok (.aload_n 0, 1) := by decide +kernel
theorem dX6_letterGoes_91 : decode cX6_letterGoes 91 = .ok (.iload_n 1, 1) := by decide +kernel
theorem dX6_letterGoes_92 : decode cX6_letterGoes 92 = .ok (.iconst 3, 1) := by decide +kernel
theorem dX6_letterGoes_93 : decode cX6_letterGoes 93 = .ok (.invokestatic 54, 3) := by decide +kernel
theorem dX6_letterGoes_96 : decode cX6_letterGoes 96 = .ok (.iconst 1, 1) := by decide +kernel
theorem dX6_letterGoes_97 : decode cX6_letterGoes 97 = .ok (.iadd, 1) := by decide +kernel
theorem dX6_letterGoes_98 : decode cX6_letterGoes 98 = .ok (.invokestatic 44, 3) := by decide +kernel
theorem dX6_letterGoes_101 : decode cX6_letterGoes 101 = .ok (.aload_n 0, 1) := by decide +kernel
theorem dX6_letterGoes_102 : decode cX6_letterGoes 102 = .ok (.iload_n 1, 1) := by decide +kernel
theorem dX6_letterGoes_103 : decode cX6_letterGoes 103 = .ok (.iconst 0, 1) := by decide +kernel
theorem dX6_letterGoes_104 : decode cX6_letterGoes 104 = .ok (.aload_n 0, 1) := by decide +kernel
theorem dX6_letterGoes_105 : decode cX6_letterGoes 105 = .ok (.iload_n 1, 1) := by decide +kernel
theorem dX6_letterGoes_106 : decode cX6_letterGoes 106 = .ok (.iconst 0, 1) := by decide +kernel
theorem dX6_letterGoes_107 : decode cX6_letterGoes 107 = .ok (.invokestatic 54, 3) := by decide +kernel
theorem dX6_letterGoes_110 : decode cX6_letterGoes 110 = .ok (.iload_n 2, 1) := by decide +kernel
theorem dX6_letterGoes_111 : decode cX6_letterGoes 111 = .ok (.isub, 1) := by decide +kernel
theorem dX6_letterGoes_112 : decode cX6_letterGoes 112 = .ok (.invokestatic 44, 3) := by decide +kernel
theorem dX6_letterGoes_115 : decode cX6_letterGoes 115 = .ok (.return_, 1) := by decide +kernel
theorem dX6_sends_0 : decode cX6_sends 0 = .ok (.aload_n 0, 1) := by decide +kernel
theorem dX6_sends_1 : decode cX6_sends 1 = .ok (.iload_n 1, 1) := by decide +kernel
theorem dX6_sends_2 : decode cX6_sends 2 = .ok (.iconst 3, 1) := by decide +kernel
theorem dX6_sends_3 : decode cX6_sends 3 = .ok (.invokestatic 54, 3) := by decide +kernel
theorem dX6_sends_6 : decode cX6_sends 6 = .ok (.istore_n 3, 1) := by decide +kernel
theorem dX6_sends_7 : decode cX6_sends 7 = .ok (.iconst 1, 1) := by decide +kernel
theorem dX6_sends_8 : decode cX6_sends 8 = .ok (.istore 4, 2) := by decide +kernel
theorem dX6_sends_10 : decode cX6_sends 10 = .ok (.iload 4, 2) := by decide +kernel
theorem dX6_sends_12 : decode cX6_sends 12 = .ok (.ifCond .eq 101, 3) := by decide +kernel
theorem dX6_sends_15 : decode cX6_sends 15 = .ok (.aload_n 0, 1) := by decide +kernel
theorem dX6_sends_16 : decode cX6_sends 16 = .ok (.iload_n 1, 1) := by decide +kernel
theorem dX6_sends_17 : decode cX6_sends 17 = .ok (.iconst 0, 1) := by decide +kernel
theorem dX6_sends_18 : decode cX6_sends 18 = .ok (.invokestatic 54, 3) := by decide +kernel
theorem dX6_sends_21 : decode cX6_sends 21 = .ok (.ifCond .le 92, 3) := by decide +kernel
theorem dX6_sends_24 : decode cX6_sends 24 = .ok (.aload_n 0, 1) := by decide +kernel
theorem dX6_sends_25 : decode cX6_sends 25 = .ok (.iload_n 1, 1) := by decide +kernel
theorem dX6_sends_26 : decode cX6_sends 26 = .ok (.bipush 6, 2) := by decide +kernel
theorem dX6_sends_28 : decode cX6_sends 28 = .ok (.invokestatic 54, 3) := by decide +kernel
theorem dX6_sends_31 : decode cX6_sends 31 = .ok (.aload_n 0, 1) := by decide +kernel
theorem dX6_sends_32 : decode cX6_sends 32 = .ok (.bipush 6, 2) := by decide +kernel
theorem dX6_sends_34 : decode cX6_sends 34 = .ok (.iaload, 1) := by decide +kernel
theorem dX6_sends_35 : decode cX6_sends 35 = .ok (.if_icmp .ge 78, 3) := by decide +kernel
theorem dX6_sends_38 : decode cX6_sends 38 = .ok (.aload_n 0, 1) := by decide +kernel
theorem dX6_sends_39 : decode cX6_sends 39 = .ok (.iload_n 1, 1) := by decide +kernel
theorem dX6_sends_40 : decode cX6_sends 40 = .ok (.iconst 0, 1) := by decide +kernel
theorem dX6_sends_41 : decode cX6_sends 41 = .ok (.invokestatic 54, 3) := by decide +kernel
theorem dX6_sends_44 : decode cX6_sends 44 = .ok (.aload_n 0, 1) := by decide +kernel
theorem dX6_sends_45 : decode cX6_sends 45 = .ok (.iconst 5, 1) := by decide +kernel
theorem dX6_sends_46 : decode cX6_sends 46 = .ok (.iaload, 1) := by decide +kernel
theorem dX6_sends_47 : decode cX6_sends 47 = .ok (.if_icmp .lt 7, 3) := by decide +kernel
theorem dX6_sends_50 : decode cX6_sends 50 = .ok (.iconst 1, 1) := by decide +kernel
theorem dX6_sends_51 : decode cX6_sends 51 = .ok (.goto 4, 3) := by decide +kernel
theorem dX6_sends_54 : decode cX6_sends 54 = .ok (.iconst 0, 1) := by decide +kernel
theorem dX6_sends_55 : decode cX6_sends 55 = .ok (.istore 5, 2) := by decide +kernel
theorem dX6_sends_57 : decode cX6_sends 57 = .ok (.iload 5, 2) := by decide +kernel
theorem dX6_sends_59 : decode cX6_sends 59 = .ok (.ifCond .ne 17, 3) := by decide +kernel
theorem dX6_sends_62 : decode cX6_sends 62 = .ok (.iload_n 2, 1) := by decide +kernel
theorem dX6_sends_63 : decode cX6_sends 63 = .ok (.ifCond .eq 13, 3) := by decide +kernel
theorem dX6_sends_66 : decode cX6_sends 66 = .ok (.aload_n 0, 1) := by decide +kernel
theorem dX6_sends_67 : decode cX6_sends 67 = .ok (.iload_n 1, 1) := by decide +kernel
theorem dX6_sends_68 : decode cX6_sends 68 = .ok (.bipush 6, 2) := by decide +kernel
theorem dX6_sends_70 : decode cX6_sends 70 = .ok (.invokestatic 54, 3) := by decide +kernel
theorem dX6_sends_73 : decode cX6_sends 73 = .ok (.ifCond .ne 7, 3) := by decide +kernel
theorem dX6_sends_76 : decode cX6_sends 76 = .ok (.iconst 1, 1) := by decide +kernel
theorem dX6_sends_77 : decode cX6_sends 77 = .ok (.goto 4, 3) := by decide +kernel
theorem dX6_sends_80 : decode cX6_sends 80 = .ok (.iconst 0, 1) := by decide +kernel
theorem dX6_sends_81 : decode cX6_sends 81 = .ok (.istore 4, 2) := by decide +kernel
theorem dX6_sends_83 : decode cX6_sends 83 = .ok (.iload 4, 2) := by decide +kernel
theorem dX6_sends_85 : decode cX6_sends 85 = .ok (.ifCond .eq 25, 3) := by decide +kernel
theorem dX6_sends_88 : decode cX6_sends 88 = .ok (.aload_n 0, 1) := by decide +kernel
theorem dX6_sends_89 : decode cX6_sends 89 = .ok (.iload_n 1, 1) := by decide +kernel
theorem dX6_sends_90 : decode cX6_sends 90 = .ok (.iload 5, 2) := by decide +kernel
theorem dX6_sends_92 : decode cX6_sends 92 = .ok (.ifCond .eq 9, 3) := by decide +kernel
theorem dX6_sends_95 : decode cX6_sends 95 = .ok (.aload_n 0, 1) := by decide +kernel
theorem dX6_sends_96 : decode cX6_sends 96 = .ok (.iconst 5, 1) := by decide +kernel
theorem dX6_sends_97 : decode cX6_sends 97 = .ok (.iaload, 1) := by decide +kernel
theorem dX6_sends_98 : decode cX6_sends 98 = .ok (.goto 9, 3) := by decide +kernel
theorem dX6_sends_101 : decode cX6_sends 101 = .ok (.aload_n 0, 1) := by decide +kernel
theorem dX6_sends_102 : decode cX6_sends 102 = .ok (.iload_n 1, 1) := by decide +kernel
theorem dX6_sends_103 : decode cX6_sends 103 = .ok (.iconst 0, 1) := by decide +kernel
theorem dX6_sends_104 : decode cX6_sends 104 = .ok (.invokestatic 54, 3) := by decide +kernel
theorem dX6_sends_107 : decode cX6_sends 107 = .ok (.invokestatic 58, 3) := by decide +kernel
theorem dX6_sends_110 : decode cX6_sends 110 = .ok (.goto (-100), 3) := by decide +kernel
theorem dX6_sends_113 : decode cX6_sends 113 = .ok (.aload_n 0, 1) := by decide +kernel
theorem dX6_sends_114 : decode cX6_sends 114 = .ok (.iload_n 1, 1) := by decide +kernel
theorem dX6_sends_115 : decode cX6_sends 115 = .ok (.iconst 3, 1) := by decide +kernel
theorem dX6_sends_116 : decode cX6_sends 116 = .ok (.invokestatic 54, 3) := by decide +kernel
theorem dX6_sends_119 : decode cX6_sends 119 = .ok (.iload_n 3, 1) := by decide +kernel
theorem dX6_sends_120 : decode cX6_sends 120 = .ok (.isub, 1) := by decide +kernel
theorem dX6_sends_121 : decode cX6_sends 121 = .ok (.ireturn, 1) := by decide +kernel
theorem dX6_sendsAsItDoes_0 : decode cX6_sendsAsItDoes 0 = .ok (.aload_n 0, 1) := by decide +kernel
theorem dX6_sendsAsItDoes_1 : decode cX6_sendsAsItDoes 1 = .ok (.iload_n 1, 1) := by decide +kernel
theorem dX6_sendsAsItDoes_2 : decode cX6_sendsAsItDoes 2 = .ok (.aload_n 0, 1) := by decide +kernel
theorem dX6_sendsAsItDoes_3 : decode cX6_sendsAsItDoes 3 = .ok (.iload_n 1, 1) := by decide +kernel
theorem dX6_sendsAsItDoes_4 : decode cX6_sendsAsItDoes 4 = .ok (.iconst 1, 1) := by decide +kernel
theorem dX6_sendsAsItDoes_5 : decode cX6_sendsAsItDoes 5 = .ok (.invokestatic 54, 3) := by decide +kernel
theorem dX6_sendsAsItDoes_8 : decode cX6_sendsAsItDoes 8 = .ok (.iconst 1, 1) := by decide +kernel
theorem dX6_sendsAsItDoes_9 : decode cX6_sendsAsItDoes 9 = .ok (.if_icmp .ne 7, 3) := by decide +kernel
theorem dX6_sendsAsItDoes_12 : decode cX6_sendsAsItDoes 12 = .ok (.iconst 1, 1) := by decide +kernel
theorem dX6_sendsAsItDoes_13 : decode cX6_sendsAsItDoes 13 = .ok (.goto 4, 3) := by decide +kernel
theorem dX6_sendsAsItDoes_16 : decode cX6_sendsAsItDoes 16 = .ok (.iconst 0, 1) := by decide +kernel
theorem dX6_sendsAsItDoes_17 : decode cX6_sendsAsItDoes 17 = .ok (.invokestatic 62, 3) := by decide +kernel
theorem dX6_sendsAsItDoes_20 : decode cX6_sendsAsItDoes 20 = .ok (.ireturn, 1) := by decide +kernel
theorem dX6_canWrite_0 : decode cX6_canWrite 0 = .ok (.aload_n 0, 1) := by decide +kernel
theorem dX6_canWrite_1 : decode cX6_canWrite 1 = .ok (.iload_n 1, 1) := by decide +kernel
theorem dX6_canWrite_2 : decode cX6_canWrite 2 = .ok (.iconst 0, 1) := by decide +kernel
theorem dX6_canWrite_3 : decode cX6_canWrite 3 = .ok (.invokestatic 54, 3) := by decide +kernel
theorem dX6_canWrite_6 : decode cX6_canWrite 6 = .ok (.iload_n 2, 1) := by decide +kernel
theorem dX6_canWrite_7 : decode cX6_canWrite 7 = .ok (.iadd, 1) := by decide +kernel
theorem dX6_canWrite_8 : decode cX6_canWrite 8 = .ok (.sipush 9999, 3) := by decide +kernel
theorem dX6_canWrite_11 : decode cX6_canWrite 11 = .ok (.if_icmp .gt 7, 3) := by decide +kernel
theorem dX6_canWrite_14 : decode cX6_canWrite 14 = .ok (.iconst 1, 1) := by decide +kernel
theorem dX6_canWrite_15 : decode cX6_canWrite 15 = .ok (.goto 4, 3) := by decide +kernel
theorem dX6_canWrite_18 : decode cX6_canWrite 18 = .ok (.iconst 0, 1) := by decide +kernel
theorem dX6_canWrite_19 : decode cX6_canWrite 19 = .ok (.ireturn, 1) := by decide +kernel
theorem dX6_writeOn_0 : decode cX6_writeOn 0 = .ok (.aload_n 0, 1) := by decide +kernel
theorem dX6_writeOn_1 : decode cX6_writeOn 1 = .ok (.iload_n 1, 1) := by decide +kernel
theorem dX6_writeOn_2 : decode cX6_writeOn 2 = .ok (.iconst 0, 1) := by decide +kernel
theorem dX6_writeOn_3 : decode cX6_writeOn 3 = .ok (.aload_n 0, 1) := by decide +kernel
theorem dX6_writeOn_4 : decode cX6_writeOn 4 = .ok (.iload_n 1, 1) := by decide +kernel
theorem dX6_writeOn_5 : decode cX6_writeOn 5 = .ok (.iconst 0, 1) := by decide +kernel
theorem dX6_writeOn_6 : decode cX6_writeOn 6 = .ok (.invokestatic 54, 3) := by decide +kernel
theorem dX6_writeOn_9 : decode cX6_writeOn 9 = .ok (.iload_n 2, 1) := by decide +kernel
theorem dX6_writeOn_10 : decode cX6_writeOn 10 = .ok (.iadd, 1) := by decide +kernel
theorem dX6_writeOn_11 : decode cX6_writeOn 11 = .ok (.invokestatic 44, 3) := by decide +kernel
theorem dX6_writeOn_14 : decode cX6_writeOn 14 = .ok (.aload_n 0, 1) := by decide +kernel
theorem dX6_writeOn_15 : decode cX6_writeOn 15 = .ok (.iload_n 1, 1) := by decide +kernel
theorem dX6_writeOn_16 : decode cX6_writeOn 16 = .ok (.iconst 2, 1) := by decide +kernel
theorem dX6_writeOn_17 : decode cX6_writeOn 17 = .ok (.aload_n 0, 1) := by decide +kernel
theorem dX6_writeOn_18 : decode cX6_writeOn 18 = .ok (.iload_n 1, 1) := by decide +kernel
theorem dX6_writeOn_19 : decode cX6_writeOn 19 = .ok (.iconst 2, 1) := by decide +kernel
theorem dX6_writeOn_20 : decode cX6_writeOn 20 = .ok (.invokestatic 54, 3) := by decide +kernel
theorem dX6_writeOn_23 : decode cX6_writeOn 23 = .ok (.iload_n 2, 1) := by decide +kernel
theorem dX6_writeOn_24 : decode cX6_writeOn 24 = .ok (.iadd, 1) := by decide +kernel
theorem dX6_writeOn_25 : decode cX6_writeOn 25 = .ok (.invokestatic 44, 3) := by decide +kernel
theorem dX6_writeOn_28 : decode cX6_writeOn 28 = .ok (.aload_n 0, 1) := by decide +kernel
theorem dX6_writeOn_29 : decode cX6_writeOn 29 = .ok (.iload_n 1, 1) := by decide +kernel
theorem dX6_writeOn_30 : decode cX6_writeOn 30 = .ok (.invokestatic 66, 3) := by decide +kernel
theorem dX6_writeOn_33 : decode cX6_writeOn 33 = .ok (.ireturn, 1) := by decide +kernel
theorem dX6_answers_0 : decode cX6_answers 0 = .ok (.aload_n 0, 1) := by decide +kernel
theorem dX6_answers_1 : decode cX6_answers 1 = .ok (.iconst 1, 1) := by decide +kernel
theorem dX6_answers_2 : decode cX6_answers 2 = .ok (.iaload, 1) := by decide +kernel
theorem dX6_answers_3 : decode cX6_answers 3 = .ok (.aload_n 0, 1) := by decide +kernel
theorem dX6_answers_4 : decode cX6_answers 4 = .ok (.iconst 3, 1) := by decide +kernel
theorem dX6_answers_5 : decode cX6_answers 5 = .ok (.iaload, 1) := by decide +kernel
theorem dX6_answers_6 : decode cX6_answers 6 = .ok (.iadd, 1) := by decide +kernel
theorem dX6_answers_7 : decode cX6_answers 7 = .ok (.istore_n 2, 1) := by decide +kernel
theorem dX6_answers_8 : decode cX6_answers 8 = .ok (.iload_n 2, 1) := by decide +kernel
theorem dX6_answers_9 : decode cX6_answers 9 = .ok (.aload_n 0, 1) := by decide +kernel
theorem dX6_answers_10 : decode cX6_answers 10 = .ok (.iload_n 1, 1) := by decide +kernel
theorem dX6_answers_11 : decode cX6_answers 11 = .ok (.bipush 14, 2) := by decide +kernel
theorem dX6_answers_13 : decode cX6_answers 13 = .ok (.invokestatic 54, 3) := by decide +kernel
theorem dX6_answers_16 : decode cX6_answers 16 = .ok (.if_icmp .ge 13, 3) := by decide +kernel
theorem dX6_answers_19 : decode cX6_answers 19 = .ok (.aload_n 0, 1) := by decide +kernel
theorem dX6_answers_20 : decode cX6_answers 20 = .ok (.iload_n 1, 1) := by decide +kernel
theorem dX6_answers_21 : decode cX6_answers 21 = .ok (.bipush 14, 2) := by decide +kernel
theorem dX6_answers_23 : decode cX6_answers 23 = .ok (.invokestatic 54, 3) := by decide +kernel
theorem dX6_answers_26 : decode cX6_answers 26 = .ok (.goto 4, 3) := by decide +kernel
theorem dX6_answers_29 : decode cX6_answers 29 = .ok (.iload_n 2, 1) := by decide +kernel
theorem dX6_answers_30 : decode cX6_answers 30 = .ok (.istore_n 2, 1) := by decide +kernel
theorem dX6_answers_31 : decode cX6_answers 31 = .ok (.aload_n 0, 1) := by decide +kernel
theorem dX6_answers_32 : decode cX6_answers 32 = .ok (.iload_n 1, 1) := by decide +kernel
theorem dX6_answers_33 : decode cX6_answers 33 = .ok (.bipush 13, 2) := by decide +kernel
theorem dX6_answers_35 : decode cX6_answers 35 = .ok (.invokestatic 54, 3) := by decide +kernel
theorem dX6_answers_38 : decode cX6_answers 38 = .ok (.istore_n 3, 1) := by decide +kernel
theorem dX6_answers_39 : decode cX6_answers 39 = .ok (.aload_n 0, 1) := by decide +kernel
theorem dX6_answers_40 : decode cX6_answers 40 = .ok (.iload_n 1, 1) := by decide +kernel
theorem dX6_answers_41 : decode cX6_answers 41 = .ok (.bipush 27, 2) := by decide +kernel
theorem dX6_answers_43 : decode cX6_answers 43 = .ok (.iload_n 3, 1) := by decide +kernel
theorem dX6_answers_44 : decode cX6_answers 44 = .ok (.iadd, 1) := by decide +kernel
theorem dX6_answers_45 : decode cX6_answers 45 = .ok (.iload_n 2, 1) := by decide +kernel
theorem dX6_answers_46 : decode cX6_answers 46 = .ok (.invokestatic 44, 3) := by decide +kernel
theorem dX6_answers_49 : decode cX6_answers 49 = .ok (.aload_n 0, 1) := by decide +kernel
theorem dX6_answers_50 : decode cX6_answers 50 = .ok (.iload_n 1, 1) := by decide +kernel
theorem dX6_answers_51 : decode cX6_answers 51 = .ok (.bipush 33, 2) := by decide +kernel
theorem dX6_answers_53 : decode cX6_answers 53 = .ok (.iload_n 3, 1) := by decide +kernel
theorem dX6_answers_54 : decode cX6_answers 54 = .ok (.iadd, 1) := by decide +kernel
theorem dX6_answers_55 : decode cX6_answers 55 = .ok (.aload_n 0, 1) := by decide +kernel
theorem dX6_answers_56 : decode cX6_answers 56 = .ok (.iload_n 1, 1) := by decide +kernel
theorem dX6_answers_57 : decode cX6_answers 57 = .ok (.bipush 9, 2) := by decide +kernel
theorem dX6_answers_59 : decode cX6_answers 59 = .ok (.invokestatic 54, 3) := by decide +kernel
theorem dX6_answers_62 : decode cX6_answers 62 = .ok (.invokestatic 44, 3) := by decide +kernel
theorem dX6_answers_65 : decode cX6_answers 65 = .ok (.aload_n 0, 1) := by decide +kernel
theorem dX6_answers_66 : decode cX6_answers 66 = .ok (.iload_n 1, 1) := by decide +kernel
theorem dX6_answers_67 : decode cX6_answers 67 = .ok (.bipush 13, 2) := by decide +kernel
theorem dX6_answers_69 : decode cX6_answers 69 = .ok (.iload_n 3, 1) := by decide +kernel
theorem dX6_answers_70 : decode cX6_answers 70 = .ok (.iconst 1, 1) := by decide +kernel
theorem dX6_answers_71 : decode cX6_answers 71 = .ok (.iadd, 1) := by decide +kernel
theorem dX6_answers_72 : decode cX6_answers 72 = .ok (.invokestatic 44, 3) := by decide +kernel
theorem dX6_answers_75 : decode cX6_answers 75 = .ok (.aload_n 0, 1) := by decide +kernel
theorem dX6_answers_76 : decode cX6_answers 76 = .ok (.iload_n 1, 1) := by decide +kernel
theorem dX6_answers_77 : decode cX6_answers 77 = .ok (.bipush 14, 2) := by decide +kernel
theorem dX6_answers_79 : decode cX6_answers 79 = .ok (.iload_n 2, 1) := by decide +kernel
theorem dX6_answers_80 : decode cX6_answers 80 = .ok (.invokestatic 44, 3) := by decide +kernel
theorem dX6_answers_83 : decode cX6_answers 83 = .ok (.aload_n 0, 1) := by decide +kernel
theorem dX6_answers_84 : decode cX6_answers 84 = .ok (.iload_n 1, 1) := by decide +kernel
theorem dX6_answers_85 : decode cX6_answers 85 = .ok (.bipush 12, 2) := by decide +kernel
theorem dX6_answers_87 : decode cX6_answers 87 = .ok (.aload_n 0, 1) := by decide +kernel
theorem dX6_answers_88 : decode cX6_answers 88 = .ok (.iload_n 1, 1) := by decide +kernel
theorem dX6_answers_89 : decode cX6_answers 89 = .ok (.bipush 12, 2) := by decide +kernel
theorem dX6_answers_91 : decode cX6_answers 91 = .ok (.invokestatic 54, 3) := by decide +kernel
theorem dX6_answers_94 : decode cX6_answers 94 = .ok (.iconst 1, 1) := by decide +kernel
theorem dX6_answers_95 : decode cX6_answers 95 = .ok (.iadd, 1) := by decide +kernel
theorem dX6_answers_96 : decode cX6_answers 96 = .ok (.invokestatic 44, 3) := by decide +kernel
theorem dX6_answers_99 : decode cX6_answers 99 = .ok (.aload_n 0, 1) := by decide +kernel
theorem dX6_answers_100 : decode cX6_answers 100 = .ok (.iload_n 1, 1) := by decide +kernel
theorem dX6_answers_101 : decode cX6_answers 101 = .ok (.bipush 10, 2) := by decide +kernel
theorem dX6_answers_103 : decode cX6_answers 103 = .ok (.iconst 0, 1) := by decide +kernel
theorem dX6_answers_104 : decode cX6_answers 104 = .ok (.invokestatic 44, 3) := by decide +kernel
theorem dX6_answers_107 : decode cX6_answers 107 = .ok (.aload_n 0, 1) := by decide +kernel
theorem dX6_answers_108 : decode cX6_answers 108 = .ok (.iload_n 1, 1) := by decide +kernel
theorem dX6_answers_109 : decode cX6_answers 109 = .ok (.bipush 11, 2) := by decide +kernel
theorem dX6_answers_111 : decode cX6_answers 111 = .ok (.iconst (-1), 1) := by decide +kernel
theorem dX6_answers_112 : decode cX6_answers 112 = .ok (.invokestatic 44, 3) := by decide +kernel
theorem dX6_answers_115 : decode cX6_answers 115 = .ok (.return_, 1) := by decide +kernel
theorem dX6_letterComes_0 : decode cX6_letterComes 0 = .ok (.aload_n 0, 1) := by decide +kernel
theorem dX6_letterComes_1 : decode cX6_letterComes 1 = .ok (.iload_n 1, 1) := by decide +kernel
theorem dX6_letterComes_2 : decode cX6_letterComes 2 = .ok (.bipush 8, 2) := by decide +kernel
theorem dX6_letterComes_4 : decode cX6_letterComes 4 = .ok (.aload_n 0, 1) := by decide +kernel
theorem dX6_letterComes_5 : decode cX6_letterComes 5 = .ok (.iload_n 1, 1) := by decide +kernel
theorem dX6_letterComes_6 : decode cX6_letterComes 6 = .ok (.bipush 8, 2) := by decide +kernel
theorem dX6_letterComes_8 : decode cX6_letterComes 8 = .ok (.invokestatic 54, 3) := by decide +kernel
theorem dX6_letterComes_11 : decode cX6_letterComes 11 = .ok (.iload_n 2, 1) := by decide +kernel
theorem dX6_letterComes_12 : decode cX6_letterComes 12 = .ok (.iadd, 1) := by decide +kernel
theorem dX6_letterComes_13 : decode cX6_letterComes 13 = .ok (.invokestatic 44, 3) := by decide +kernel
theorem dX6_letterComes_16 : decode cX6_letterComes 16 = .ok (.aload_n 0, 1) := by decide +kernel
theorem dX6_letterComes_17 : decode cX6_letterComes 17 = .ok (.iload_n 1, 1) := by decide +kernel
theorem dX6_letterComes_18 : decode cX6_letterComes 18 = .ok (.bipush 9, 2) := by decide +kernel
theorem dX6_letterComes_20 : decode cX6_letterComes 20 = .ok (.aload_n 0, 1) := by decide +kernel
theorem dX6_letterComes_21 : decode cX6_letterComes 21 = .ok (.iload_n 1, 1) := by decide +kernel
theorem dX6_letterComes_22 : decode cX6_letterComes 22 = .ok (.bipush 9, 2) := by decide +kernel
theorem dX6_letterComes_24 : decode cX6_letterComes 24 = .ok (.invokestatic 54, 3) := by decide +kernel
theorem dX6_letterComes_27 : decode cX6_letterComes 27 = .ok (.iconst 1, 1) := by decide +kernel
theorem dX6_letterComes_28 : decode cX6_letterComes 28 = .ok (.iadd, 1) := by decide +kernel
theorem dX6_letterComes_29 : decode cX6_letterComes 29 = .ok (.invokestatic 44, 3) := by decide +kernel
theorem dX6_letterComes_32 : decode cX6_letterComes 32 = .ok (.aload_n 0, 1) := by decide +kernel
theorem dX6_letterComes_33 : decode cX6_letterComes 33 = .ok (.iload_n 1, 1) := by decide +kernel
theorem dX6_letterComes_34 : decode cX6_letterComes 34 = .ok (.bipush 10, 2) := by decide +kernel
theorem dX6_letterComes_36 : decode cX6_letterComes 36 = .ok (.aload_n 0, 1) := by decide +kernel
theorem dX6_letterComes_37 : decode cX6_letterComes 37 = .ok (.iload_n 1, 1) := by decide +kernel
theorem dX6_letterComes_38 : decode cX6_letterComes 38 = .ok (.bipush 10, 2) := by decide +kernel
theorem dX6_letterComes_40 : decode cX6_letterComes 40 = .ok (.invokestatic 54, 3) := by decide +kernel
theorem dX6_letterComes_43 : decode cX6_letterComes 43 = .ok (.iconst 1, 1) := by decide +kernel
theorem dX6_letterComes_44 : decode cX6_letterComes 44 = .ok (.iadd, 1) := by decide +kernel
theorem dX6_letterComes_45 : decode cX6_letterComes 45 = .ok (.invokestatic 44, 3) := by decide +kernel
theorem dX6_letterComes_48 : decode cX6_letterComes 48 = .ok (.aload_n 0, 1) := by decide +kernel
theorem dX6_letterComes_49 : decode cX6_letterComes 49 = .ok (.iload_n 1, 1) := by decide +kernel
theorem dX6_letterComes_50 : decode cX6_letterComes 50 = .ok (.bipush 10, 2) := by decide +kernel
theorem dX6_letterComes_52 : decode cX6_letterComes 52 = .ok (.invokestatic 54, 3) := by decide +kernel
theorem dX6_letterComes_55 : decode cX6_letterComes 55 = .ok (.iconst 2, 1) := by decide +kernel
theorem dX6_letterComes_56 : decode cX6_letterComes 56 = .ok (.if_icmp .eq 9, 3) := by decide +kernel
theorem dX6_letterComes_59 : decode cX6_letterComes 59 = .ok (.aload_n 0, 1) := by decide +kernel
theorem dX6_letterComes_60 : decode cX6_letterComes 60 = .ok (.iconst 4, 1) := by decide +kernel
theorem dX6_letterComes_61 : decode cX6_letterComes 61 = .ok (.iaload, 1) := by decide +kernel
theorem dX6_letterComes_62 : decode cX6_letterComes 62 = .ok (.ifCond .ne 11, 3) := by decide +kernel
theorem dX6_letterComes_65 : decode cX6_letterComes 65 = .ok (.aload_n 0, 1) := by decide +kernel
theorem dX6_letterComes_66 : decode cX6_letterComes 66 = .ok (.iload_n 1, 1) := by decide +kernel
theorem dX6_letterComes_67 : decode cX6_letterComes 67 = .ok (.invokestatic 70, 3) := by decide +kernel
theorem dX6_letterComes_70 : decode cX6_letterComes 70 = .ok (.goto 28, 3) := by decide +kernel
theorem dX6_letterComes_73 : decode cX6_letterComes 73 = .ok (.aload_n 0, 1) := by decide +kernel
theorem dX6_letterComes_74 : decode cX6_letterComes 74 = .ok (.iload_n 1, 1) := by decide +kernel
theorem dX6_letterComes_75 : decode cX6_letterComes 75 = .ok (.bipush 11, 2) := by decide +kernel
theorem dX6_letterComes_77 : decode cX6_letterComes 77 = .ok (.invokestatic 54, 3) := by decide +kernel
theorem dX6_letterComes_80 : decode cX6_letterComes 80 = .ok (.iconst (-1), 1) := by decide +kernel
theorem dX6_letterComes_81 : decode cX6_letterComes 81 = .ok (.if_icmp .ne 17, 3) := by decide +kernel
theorem dX6_letterComes_84 : decode cX6_letterComes 84 = .ok (.aload_n 0, 1) := by decide +kernel
theorem dX6_letterComes_85 : decode cX6_letterComes 85 = .ok (.iload_n 1, 1) := by decide +kernel
theorem dX6_letterComes_86 : decode cX6_letterComes 86 = .ok (.bipush 11, 2) := by decide +kernel
theorem dX6_letterComes_88 : decode cX6_letterComes 88 = .ok (.aload_n 0, 1) := by decide +kernel
theorem dX6_letterComes_89 : decode cX6_letterComes 89 = .ok (.iconst 1, 1) := by decide +kernel
theorem dX6_letterComes_90 : decode cX6_letterComes 90 = .ok (.iaload, 1) := by decide +kernel
theorem dX6_letterComes_91 : decode cX6_letterComes 91 = .ok (.aload_n 0, 1) := by decide +kernel
theorem dX6_letterComes_92 : decode cX6_letterComes 92 = .ok (.iconst 4, 1) := by decide +kernel
theorem dX6_letterComes_93 : decode cX6_letterComes 93 = .ok (.iaload, 1) := by decide +kernel
theorem dX6_letterComes_94 : decode cX6_letterComes 94 = .ok (.iadd, 1) := by decide +kernel
theorem dX6_letterComes_95 : decode cX6_letterComes 95 = .ok (.invokestatic 44, 3) := by decide +kernel
theorem dX6_letterComes_98 : decode cX6_letterComes 98 = .ok (.return_, 1) := by decide +kernel
theorem dX6_firstAnswered_0 : decode cX6_firstAnswered 0 = .ok (.aload_n 0, 1) := by decide +kernel
theorem dX6_firstAnswered_1 : decode cX6_firstAnswered 1 = .ok (.iload_n 1, 1) := by decide +kernel
theorem dX6_firstAnswered_2 : decode cX6_firstAnswered 2 = .ok (.bipush 6, 2) := by decide +kernel
theorem dX6_firstAnswered_4 : decode cX6_firstAnswered 4 = .ok (.invokestatic 54, 3) := by decide +kernel
theorem dX6_firstAnswered_7 : decode cX6_firstAnswered 7 = .ok (.iconst 1, 1) := by decide +kernel
theorem dX6_firstAnswered_8 : decode cX6_firstAnswered 8 = .ok (.isub, 1) := by decide +kernel
theorem dX6_firstAnswered_9 : decode cX6_firstAnswered 9 = .ok (.istore_n 2, 1) := by decide +kernel
theorem dX6_firstAnswered_10 : decode cX6_firstAnswered 10 = .ok (.iconst 0, 1) := by decide +kernel
theorem dX6_firstAnswered_11 : decode cX6_firstAnswered 11 = .ok (.istore_n 3, 1) := by decide +kernel
theorem dX6_firstAnswered_12 : decode cX6_firstAnswered 12 = .ok (.iload_n 3, 1) := by decide +kernel
theorem dX6_firstAnswered_13 : decode cX6_firstAnswered 13 = .ok (.iconst 2, 1) := by decide +kernel
theorem dX6_firstAnswered_14 : decode cX6_firstAnswered 14 = .ok (.iload_n 2, 1) := by decide +kernel
theorem dX6_firstAnswered_15 : decode cX6_firstAnswered 15 = .ok (.imul, 1) := by decide +kernel
theorem dX6_firstAnswered_16 : decode cX6_firstAnswered 16 = .ok (.if_icmp .ge 29, 3) := by decide +kernel
theorem dX6_firstAnswered_19 : decode cX6_firstAnswered 19 = .ok (.aload_n 0, 1) := by decide +kernel
theorem dX6_firstAnswered_20 : decode cX6_firstAnswered 20 = .ok (.iload_n 1, 1) := by decide +kernel
theorem dX6_firstAnswered_21 : decode cX6_firstAnswered 21 = .ok (.bipush 15, 2) := by decide +kernel
theorem dX6_firstAnswered_23 : decode cX6_firstAnswered 23 = .ok (.iload_n 3, 1) := by decide +kernel
theorem dX6_firstAnswered_24 : decode cX6_firstAnswered 24 = .ok (.iadd, 1) := by decide +kernel
theorem dX6_firstAnswered_25 : decode cX6_firstAnswered 25 = .ok (.aload_n 0, 1) := by decide +kernel
theorem dX6_firstAnswered_26 : decode cX6_firstAnswered 26 = .ok (.iload_n 1, 1) := by decide +kernel
theorem dX6_firstAnswered_27 : decode cX6_firstAnswered 27 = .ok (.bipush 15, 2) := by decide +kernel
theorem dX6_firstAnswered_29 : decode cX6_firstAnswered 29 = .ok (.iload_n 3, 1) := by decide +kernel
theorem dX6_firstAnswered_30 : decode cX6_firstAnswered 30 = .ok (.iadd, 1) := by decide +kernel
theorem dX6_firstAnswered_31 : decode cX6_firstAnswered 31 = .ok (.iconst 2, 1) := by decide +kernel
theorem dX6_firstAnswered_32 : decode cX6_firstAnswered 32 = .ok (.iadd, 1) := by decide +kernel
theorem dX6_firstAnswered_33 : decode cX6_firstAnswered 33 = .ok (.invokestatic 54, 3) := by decide +kernel
theorem dX6_firstAnswered_36 : decode cX6_firstAnswered 36 = .ok (.invokestatic 44, 3) := by decide +kernel
theorem dX6_firstAnswered_39 : decode cX6_firstAnswered 39 = .ok (.iinc 3 1, 3) := by decide +kernel
theorem dX6_firstAnswered_42 : decode cX6_firstAnswered 42 = .ok (.goto (-30), 3) := by decide +kernel
theorem dX6_firstAnswered_45 : decode cX6_firstAnswered 45 = .ok (.aload_n 0, 1) := by decide +kernel
theorem dX6_firstAnswered_46 : decode cX6_firstAnswered 46 = .ok (.iload_n 1, 1) := by decide +kernel
theorem dX6_firstAnswered_47 : decode cX6_firstAnswered 47 = .ok (.bipush 6, 2) := by decide +kernel
theorem dX6_firstAnswered_49 : decode cX6_firstAnswered 49 = .ok (.iload_n 2, 1) := by decide +kernel
theorem dX6_firstAnswered_50 : decode cX6_firstAnswered 50 = .ok (.invokestatic 44, 3) := by decide +kernel
theorem dX6_firstAnswered_53 : decode cX6_firstAnswered 53 = .ok (.aload_n 0, 1) := by decide +kernel
theorem dX6_firstAnswered_54 : decode cX6_firstAnswered 54 = .ok (.iload_n 1, 1) := by decide +kernel
theorem dX6_firstAnswered_55 : decode cX6_firstAnswered 55 = .ok (.iconst 5, 1) := by decide +kernel
theorem dX6_firstAnswered_56 : decode cX6_firstAnswered 56 = .ok (.aload_n 0, 1) := by decide +kernel
theorem dX6_firstAnswered_57 : decode cX6_firstAnswered 57 = .ok (.iload_n 1, 1) := by decide +kernel
theorem dX6_firstAnswered_58 : decode cX6_firstAnswered 58 = .ok (.iconst 5, 1) := by decide +kernel
theorem dX6_firstAnswered_59 : decode cX6_firstAnswered 59 = .ok (.invokestatic 54, 3) := by decide +kernel
theorem dX6_firstAnswered_62 : decode cX6_firstAnswered 62 = .ok (.iconst 1, 1) := by decide +kernel
theorem dX6_firstAnswered_63 : decode cX6_firstAnswered 63 = .ok (.iadd, 1) := by decide +kernel
theorem dX6_firstAnswered_64 : decode cX6_firstAnswered 64 = .ok (.invokestatic 44, 3) := by decide +kernel
theorem dX6_firstAnswered_67 : decode cX6_firstAnswered 67 = .ok (.return_, 1) := by decide +kernel
theorem dX6_answerComes_0 : decode cX6_answerComes 0 = .ok (.aload_n 0, 1) := by decide +kernel
theorem dX6_answerComes_1 : decode cX6_answerComes 1 = .ok (.iload_n 1, 1) := by decide +kernel
theorem dX6_answerComes_2 : decode cX6_answerComes 2 = .ok (.bipush 33, 2) := by decide +kernel
theorem dX6_answerComes_4 : decode cX6_answerComes 4 = .ok (.invokestatic 54, 3) := by decide +kernel
theorem dX6_answerComes_7 : decode cX6_answerComes 7 = .ok (.istore_n 2, 1) := by decide +kernel
theorem dX6_answerComes_8 : decode cX6_answerComes 8 = .ok (.aload_n 0, 1) := by decide +kernel
theorem dX6_answerComes_9 : decode cX6_answerComes 9 = .ok (.iload_n 1, 1) := by decide +kernel
theorem dX6_answerComes_10 : decode cX6_answerComes 10 = .ok (.bipush 13, 2) := by decide +kernel
theorem dX6_answerComes_12 : decode cX6_answerComes 12 = .ok (.invokestatic 54, 3) := by decide +kernel
theorem dX6_answerComes_15 : decode cX6_answerComes 15 = .ok (.iconst 1, 1) := by decide +kernel
theorem dX6_answerComes_16 : decode cX6_answerComes 16 = .ok (.isub, 1) := by decide +kernel
theorem dX6_answerComes_17 : decode cX6_answerComes 17 = .ok (.istore_n 3, 1) := by decide +kernel
theorem dX6_answerComes_18 : decode cX6_answerComes 18 = .ok (.iconst 0, 1) := by decide +kernel
theorem dX6_answerComes_19 : decode cX6_answerComes 19 = .ok (.istore 4, 2) := by decide +kernel
theorem dX6_answerComes_21 : decode cX6_answerComes 21 = .ok (.iload 4, 2) := by decide +kernel
theorem dX6_answerComes_23 : decode cX6_answerComes 23 = .ok (.iload_n 3, 1) := by decide +kernel
theorem dX6_answerComes_24 : decode cX6_answerComes 24 = .ok (.if_icmp .ge 51, 3) := by decide +kernel
theorem dX6_answerComes_27 : decode cX6_answerComes 27 = .ok (.aload_n 0, 1) := by decide +kernel
theorem dX6_answerComes_28 : decode cX6_answerComes 28 = .ok (.iload_n 1, 1) := by decide +kernel
theorem dX6_answerComes_29 : decode cX6_answerComes 29 = .ok (.bipush 27, 2) := by decide +kernel
theorem dX6_answerComes_31 : decode cX6_answerComes 31 = .ok (.iload 4, 2) := by decide +kernel
theorem dX6_answerComes_33 : decode cX6_answerComes 33 = .ok (.iadd, 1) := by decide +kernel
theorem dX6_answerComes_34 : decode cX6_answerComes 34 = .ok (.aload_n 0, 1) := by decide +kernel
theorem dX6_answerComes_35 : decode cX6_answerComes 35 = .ok (.iload_n 1, 1) := by decide +kernel
theorem dX6_answerComes_36 : decode cX6_answerComes 36 = .ok (.bipush 27, 2) := by decide +kernel
theorem dX6_answerComes_38 : decode cX6_answerComes 38 = .ok (.iload 4, 2) := by decide +kernel
theorem dX6_answerComes_40 : decode cX6_answerComes 40 = .ok (.iadd, 1) := by decide +kernel
theorem dX6_answerComes_41 : decode cX6_answerComes 41 = .ok (.iconst 1, 1) := by decide +kernel
theorem dX6_answerComes_42 : decode cX6_answerComes 42 = .ok (.iadd, 1) := by decide +kernel
theorem dX6_answerComes_43 : decode cX6_answerComes 43 = .ok (.invokestatic 54, 3) := by decide +kernel
theorem dX6_answerComes_46 : decode cX6_answerComes 46 = .ok (.invokestatic 44, 3) := by decide +kernel
theorem dX6_answerComes_49 : decode cX6_answerComes 49 = .ok (.aload_n 0, 1) := by decide +kernel
theorem dX6_answerComes_50 : decode cX6_answerComes 50 = .ok (.iload_n 1, 1) := by decide +kernel
theorem dX6_answerComes_51 : decode cX6_answerComes 51 = .ok (.bipush 33, 2) := by decide +kernel
theorem dX6_answerComes_53 : decode cX6_answerComes 53 = .ok (.iload 4, 2) := by decide +kernel
theorem dX6_answerComes_55 : decode cX6_answerComes 55 = .ok (.iadd, 1) := by decide +kernel
theorem dX6_answerComes_56 : decode cX6_answerComes 56 = .ok (.aload_n 0, 1) := by decide +kernel
theorem dX6_answerComes_57 : decode cX6_answerComes 57 = .ok (.iload_n 1, 1) := by decide +kernel
theorem dX6_answerComes_58 : decode cX6_answerComes 58 = .ok (.bipush 34, 2) := by decide +kernel
theorem dX6_answerComes_60 : decode cX6_answerComes 60 = .ok (.iload 4, 2) := by decide +kernel
theorem dX6_answerComes_62 : decode cX6_answerComes 62 = .ok (.iadd, 1) := by decide +kernel
theorem dX6_answerComes_63 : decode cX6_answerComes 63 = .ok (.invokestatic 54, 3) := by decide +kernel
theorem dX6_answerComes_66 : decode cX6_answerComes 66 = .ok (.invokestatic 44, 3) := by decide +kernel
theorem dX6_answerComes_69 : decode cX6_answerComes 69 = .ok (.iinc 4 1, 3) := by decide +kernel
theorem dX6_answerComes_72 : decode cX6_answerComes 72 = .ok (.goto (-51), 3) := by decide +kernel
theorem dX6_answerComes_75 : decode cX6_answerComes 75 = .ok (.aload_n 0, 1) := by decide +kernel
theorem dX6_answerComes_76 : decode cX6_answerComes 76 = .ok (.iload_n 1, 1) := by decide +kernel
theorem dX6_answerComes_77 : decode cX6_answerComes 77 = .ok (.bipush 13, 2) := by decide +kernel
theorem dX6_answerComes_79 : decode cX6_answerComes 79 = .ok (.iload_n 3, 1) := by decide +kernel
theorem dX6_answerComes_80 : decode cX6_answerComes 80 = .ok (.invokestatic 44, 3) := by decide +kernel
theorem dX6_answerComes_83 : decode cX6_answerComes 83 = .ok (.aload_n 0, 1) := by decide +kernel
theorem dX6_answerComes_84 : decode cX6_answerComes 84 = .ok (.iload_n 1, 1) := by decide +kernel
theorem dX6_answerComes_85 : decode cX6_answerComes 85 = .ok (.iconst 5, 1) := by decide +kernel
theorem dX6_answerComes_86 : decode cX6_answerComes 86 = .ok (.invokestatic 54, 3) := by decide +kernel
theorem dX6_answerComes_89 : decode cX6_answerComes 89 = .ok (.iload_n 2, 1) := by decide +kernel
theorem dX6_answerComes_90 : decode cX6_answerComes 90 = .ok (.if_icmp .ge 21, 3) := by decide +kernel
theorem dX6_answerComes_93 : decode cX6_answerComes 93 = .ok (.aload_n 0, 1) := by decide +kernel
theorem dX6_answerComes_94 : decode cX6_answerComes 94 = .ok (.iload_n 1, 1) := by decide +kernel
theorem dX6_answerComes_95 : decode cX6_answerComes 95 = .ok (.bipush 6, 2) := by decide +kernel
theorem dX6_answerComes_97 : decode cX6_answerComes 97 = .ok (.invokestatic 54, 3) := by decide +kernel
theorem dX6_answerComes_100 : decode cX6_answerComes 100 = .ok (.ifCond .le 11, 3) := by decide +kernel
theorem dX6_answerComes_103 : decode cX6_answerComes 103 = .ok (.aload_n 0, 1) := by decide +kernel
theorem dX6_answerComes_104 : decode cX6_answerComes 104 = .ok (.iload_n 1, 1) := by decide +kernel
theorem dX6_answerComes_105 : decode cX6_answerComes 105 = .ok (.invokestatic 73, 3) := by decide +kernel
theorem dX6_answerComes_108 : decode cX6_answerComes 108 = .ok (.goto (-25), 3) := by decide +kernel
theorem dX6_answerComes_111 : decode cX6_answerComes 111 = .ok (.return_, 1) := by decide +kernel
theorem dX6_writerTicks_0 : decode cX6_writerTicks 0 = .ok (.aload_n 0, 1) := by decide +kernel
theorem dX6_writerTicks_1 : decode cX6_writerTicks 1 = .ok (.iload_n 1, 1) := by decide +kernel
theorem dX6_writerTicks_2 : decode cX6_writerTicks 2 = .ok (.bipush 9, 2) := by decide +kernel
theorem dX6_writerTicks_4 : decode cX6_writerTicks 4 = .ok (.invokestatic 54, 3) := by decide +kernel
theorem dX6_writerTicks_7 : decode cX6_writerTicks 7 = .ok (.aload_n 0, 1) := by decide +kernel
theorem dX6_writerTicks_8 : decode cX6_writerTicks 8 = .ok (.iload_n 1, 1) := by decide +kernel
theorem dX6_writerTicks_9 : decode cX6_writerTicks 9 = .ok (.iconst 5, 1) := by decide +kernel
theorem dX6_writerTicks_10 : decode cX6_writerTicks 10 = .ok (.invokestatic 54, 3) := by decide +kernel
theorem dX6_writerTicks_13 : decode cX6_writerTicks 13 = .ok (.isub, 1) := by decide +kernel
theorem dX6_writerTicks_14 : decode cX6_writerTicks 14 = .ok (.istore_n 2, 1) := by decide +kernel
theorem dX6_writerTicks_15 : decode cX6_writerTicks 15 = .ok (.aload_n 0, 1) := by decide +kernel
theorem dX6_writerTicks_16 : decode cX6_writerTicks 16 = .ok (.iload_n 1, 1) := by decide +kernel
theorem dX6_writerTicks_17 : decode cX6_writerTicks 17 = .ok (.bipush 6, 2) := by decide +kernel
theorem dX6_writerTicks_19 : decode cX6_writerTicks 19 = .ok (.invokestatic 54, 3) := by decide +kernel
theorem dX6_writerTicks_22 : decode cX6_writerTicks 22 = .ok (.istore_n 3, 1) := by decide +kernel
theorem dX6_writerTicks_23 : decode cX6_writerTicks 23 = .ok (.iload_n 2, 1) := by decide +kernel
theorem dX6_writerTicks_24 : decode cX6_writerTicks 24 = .ok (.istore 4, 2) := by decide +kernel
theorem dX6_writerTicks_26 : decode cX6_writerTicks 26 = .ok (.iload 4, 2) := by decide +kernel
theorem dX6_writerTicks_28 : decode cX6_writerTicks 28 = .ok (.iload_n 3, 1) := by decide +kernel
theorem dX6_writerTicks_29 : decode cX6_writerTicks 29 = .ok (.if_icmp .ge 46, 3) := by decide +kernel
theorem dX6_writerTicks_32 : decode cX6_writerTicks 32 = .ok (.aload_n 0, 1) := by decide +kernel
theorem dX6_writerTicks_33 : decode cX6_writerTicks 33 = .ok (.iload_n 1, 1) := by decide +kernel
theorem dX6_writerTicks_34 : decode cX6_writerTicks 34 = .ok (.bipush 15, 2) := by decide +kernel
theorem dX6_writerTicks_36 : decode cX6_writerTicks 36 = .ok (.iconst 2, 1) := by decide +kernel
theorem dX6_writerTicks_37 : decode cX6_writerTicks 37 = .ok (.iload 4, 2) := by decide +kernel
theorem dX6_writerTicks_39 : decode cX6_writerTicks 39 = .ok (.imul, 1) := by decide +kernel
theorem dX6_writerTicks_40 : decode cX6_writerTicks 40 = .ok (.iadd, 1) := by decide +kernel
theorem dX6_writerTicks_41 : decode cX6_writerTicks 41 = .ok (.iconst 1, 1) := by decide +kernel
theorem dX6_writerTicks_42 : decode cX6_writerTicks 42 = .ok (.iadd, 1) := by decide +kernel
theorem dX6_writerTicks_43 : decode cX6_writerTicks 43 = .ok (.invokestatic 54, 3) := by decide +kernel
theorem dX6_writerTicks_46 : decode cX6_writerTicks 46 = .ok (.aload_n 0, 1) := by decide +kernel
theorem dX6_writerTicks_47 : decode cX6_writerTicks 47 = .ok (.iconst 1, 1) := by decide +kernel
theorem dX6_writerTicks_48 : decode cX6_writerTicks 48 = .ok (.iaload, 1) := by decide +kernel
theorem dX6_writerTicks_49 : decode cX6_writerTicks 49 = .ok (.if_icmp .ne 20, 3) := by decide +kernel
theorem dX6_writerTicks_52 : decode cX6_writerTicks 52 = .ok (.aload_n 0, 1) := by decide +kernel
theorem dX6_writerTicks_53 : decode cX6_writerTicks 53 = .ok (.iload_n 1, 1) := by decide +kernel
theorem dX6_writerTicks_54 : decode cX6_writerTicks 54 = .ok (.aload_n 0, 1) := by decide +kernel
theorem dX6_writerTicks_55 : decode cX6_writerTicks 55 = .ok (.iload_n 1, 1) := by decide +kernel
theorem dX6_writerTicks_56 : decode cX6_writerTicks 56 = .ok (.bipush 15, 2) := by decide +kernel
theorem dX6_writerTicks_58 : decode cX6_writerTicks 58 = .ok (.iconst 2, 1) := by decide +kernel
theorem dX6_writerTicks_59 : decode cX6_writerTicks 59 = .ok (.iload 4, 2) := by decide +kernel
theorem dX6_writerTicks_61 : decode cX6_writerTicks 61 = .ok (.imul, 1) := by decide +kernel
theorem dX6_writerTicks_62 : decode cX6_writerTicks 62 = .ok (.iadd, 1) := by decide +kernel
theorem dX6_writerTicks_63 : decode cX6_writerTicks 63 = .ok (.invokestatic 54, 3) := by decide +kernel
theorem dX6_writerTicks_66 : decode cX6_writerTicks 66 = .ok (.invokestatic 76, 3) := by decide +kernel
theorem dX6_writerTicks_69 : decode cX6_writerTicks 69 = .ok (.iinc 4 1, 3) := by decide +kernel
theorem dX6_writerTicks_72 : decode cX6_writerTicks 72 = .ok (.goto (-46), 3) := by decide +kernel
theorem dX6_writerTicks_75 : decode cX6_writerTicks 75 = .ok (.aload_n 0, 1) := by decide +kernel
theorem dX6_writerTicks_76 : decode cX6_writerTicks 76 = .ok (.iload_n 1, 1) := by decide +kernel
theorem dX6_writerTicks_77 : decode cX6_writerTicks 77 = .ok (.bipush 11, 2) := by decide +kernel
theorem dX6_writerTicks_79 : decode cX6_writerTicks 79 = .ok (.invokestatic 54, 3) := by decide +kernel
theorem dX6_writerTicks_82 : decode cX6_writerTicks 82 = .ok (.aload_n 0, 1) := by decide +kernel
theorem dX6_writerTicks_83 : decode cX6_writerTicks 83 = .ok (.iconst 1, 1) := by decide +kernel
theorem dX6_writerTicks_84 : decode cX6_writerTicks 84 = .ok (.iaload, 1) := by decide +kernel
theorem dX6_writerTicks_85 : decode cX6_writerTicks 85 = .ok (.if_icmp .ne 8, 3) := by decide +kernel
theorem dX6_writerTicks_88 : decode cX6_writerTicks 88 = .ok (.aload_n 0, 1) := by decide +kernel
theorem dX6_writerTicks_89 : decode cX6_writerTicks 89 = .ok (.iload_n 1, 1) := by decide +kernel
theorem dX6_writerTicks_90 : decode cX6_writerTicks 90 = .ok (.invokestatic 70, 3) := by decide +kernel
theorem dX6_writerTicks_93 : decode cX6_writerTicks 93 = .ok (.iconst 0, 1) := by decide +kernel
theorem dX6_writerTicks_94 : decode cX6_writerTicks 94 = .ok (.istore 4, 2) := by decide +kernel
theorem dX6_writerTicks_96 : decode cX6_writerTicks 96 = .ok (.aload_n 0, 1) := by decide +kernel
theorem dX6_writerTicks_97 : decode cX6_writerTicks 97 = .ok (.iload_n 1, 1) := by decide +kernel
theorem dX6_writerTicks_98 : decode cX6_writerTicks 98 = .ok (.bipush 13, 2) := by decide +kernel
theorem dX6_writerTicks_100 : decode cX6_writerTicks 100 = .ok (.invokestatic 54, 3) := by decide +kernel
theorem dX6_writerTicks_103 : decode cX6_writerTicks 103 = .ok (.ifCond .le 27, 3) := by decide +kernel
theorem dX6_writerTicks_106 : decode cX6_writerTicks 106 = .ok (.aload_n 0, 1) := by decide +kernel
theorem dX6_writerTicks_107 : decode cX6_writerTicks 107 = .ok (.iload_n 1, 1) := by decide +kernel
theorem dX6_writerTicks_108 : decode cX6_writerTicks 108 = .ok (.bipush 27, 2) := by decide +kernel
theorem dX6_writerTicks_110 : decode cX6_writerTicks 110 = .ok (.invokestatic 54, 3) := by decide +kernel
theorem dX6_writerTicks_113 : decode cX6_writerTicks 113 = .ok (.aload_n 0, 1) := by decide +kernel
theorem dX6_writerTicks_114 : decode cX6_writerTicks 114 = .ok (.iconst 1, 1) := by decide +kernel
theorem dX6_writerTicks_115 : decode cX6_writerTicks 115 = .ok (.iaload, 1) := by decide +kernel
theorem dX6_writerTicks_116 : decode cX6_writerTicks 116 = .ok (.if_icmp .ne 14, 3) := by decide +kernel
theorem dX6_writerTicks_119 : decode cX6_writerTicks 119 = .ok (.aload_n 0, 1) := by decide +kernel
theorem dX6_writerTicks_120 : decode cX6_writerTicks 120 = .ok (.iload_n 1, 1) := by decide +kernel
theorem dX6_writerTicks_121 : decode cX6_writerTicks 121 = .ok (.invokestatic 79, 3) := by decide +kernel
theorem dX6_writerTicks_124 : decode cX6_writerTicks 124 = .ok (.iconst 1, 1) := by decide +kernel
theorem dX6_writerTicks_125 : decode cX6_writerTicks 125 = .ok (.istore 4, 2) := by decide +kernel
theorem dX6_writerTicks_127 : decode cX6_writerTicks 127 = .ok (.goto (-31), 3) := by decide +kernel
theorem dX6_writerTicks_130 : decode cX6_writerTicks 130 = .ok (.iload 4, 2) := by decide +kernel
theorem dX6_writerTicks_132 : decode cX6_writerTicks 132 = .ok (.ifCond .eq 9, 3) := by decide +kernel
theorem dX6_writerTicks_135 : decode cX6_writerTicks 135 = .ok (.aload_n 0, 1) := by decide +kernel
theorem dX6_writerTicks_136 : decode cX6_writerTicks 136 = .ok (.iload_n 1, 1) := by decide +kernel
theorem dX6_writerTicks_137 : decode cX6_writerTicks 137 = .ok (.invokestatic 66, 3) := by decide +kernel
theorem dX6_writerTicks_140 : decode cX6_writerTicks 140 = .ok (.pop, 1) := by decide +kernel
theorem dX6_writerTicks_141 : decode cX6_writerTicks 141 = .ok (.aload_n 0, 1) := by decide +kernel
theorem dX6_writerTicks_142 : decode cX6_writerTicks 142 = .ok (.iload_n 1, 1) := by decide +kernel
theorem dX6_writerTicks_143 : decode cX6_writerTicks 143 = .ok (.iconst 4, 1) := by decide +kernel
theorem dX6_writerTicks_144 : decode cX6_writerTicks 144 = .ok (.aload_n 0, 1) := by decide +kernel
theorem dX6_writerTicks_145 : decode cX6_writerTicks 145 = .ok (.iload_n 1, 1) := by decide +kernel
theorem dX6_writerTicks_146 : decode cX6_writerTicks 146 = .ok (.iconst 4, 1) := by decide +kernel
theorem dX6_writerTicks_147 : decode cX6_writerTicks 147 = .ok (.invokestatic 54, 3) := by decide +kernel
theorem dX6_writerTicks_150 : decode cX6_writerTicks 150 = .ok (.aload_n 0, 1) := by decide +kernel
theorem dX6_writerTicks_151 : decode cX6_writerTicks 151 = .ok (.iload_n 1, 1) := by decide +kernel
theorem dX6_writerTicks_152 : decode cX6_writerTicks 152 = .ok (.iconst 0, 1) := by decide +kernel
theorem dX6_writerTicks_153 : decode cX6_writerTicks 153 = .ok (.invokestatic 54, 3) := by decide +kernel
theorem dX6_writerTicks_156 : decode cX6_writerTicks 156 = .ok (.ifCond .le 7, 3) := by decide +kernel
theorem dX6_writerTicks_159 : decode cX6_writerTicks 159 = .ok (.iconst 1, 1) := by decide +kernel
theorem dX6_writerTicks_160 : decode cX6_writerTicks 160 = .ok (.goto 4, 3) := by decide +kernel
theorem dX6_writerTicks_163 : decode cX6_writerTicks 163 = .ok (.iconst 0, 1) := by decide +kernel
theorem dX6_writerTicks_164 : decode cX6_writerTicks 164 = .ok (.iadd, 1) := by decide +kernel
theorem dX6_writerTicks_165 : decode cX6_writerTicks 165 = .ok (.invokestatic 44, 3) := by decide +kernel
theorem dX6_writerTicks_168 : decode cX6_writerTicks 168 = .ok (.return_, 1) := by decide +kernel
theorem dX6_notesAreWritten_0 : decode cX6_notesAreWritten 0 = .ok (.iconst 0, 1) := by decide +kernel
theorem dX6_notesAreWritten_1 : decode cX6_notesAreWritten 1 = .ok (.istore_n 1, 1) := by decide +kernel
theorem dX6_notesAreWritten_2 : decode cX6_notesAreWritten 2 = .ok (.aload_n 0, 1) := by decide +kernel
theorem dX6_notesAreWritten_3 : decode cX6_notesAreWritten 3 = .ok (.iconst 2, 1) := by decide +kernel
theorem dX6_notesAreWritten_4 : decode cX6_notesAreWritten 4 = .ok (.iaload, 1) := by decide +kernel
theorem dX6_notesAreWritten_5 : decode cX6_notesAreWritten 5 = .ok (.istore_n 2, 1) := by decide +kernel
theorem dX6_notesAreWritten_6 : decode cX6_notesAreWritten 6 = .ok (.iconst 0, 1) := by decide +kernel
theorem dX6_notesAreWritten_7 : decode cX6_notesAreWritten 7 = .ok (.istore_n 3, 1) := by decide +kernel
theorem dX6_notesAreWritten_8 : decode cX6_notesAreWritten 8 = .ok (.iload_n 3, 1) := by decide +kernel
theorem dX6_notesAreWritten_9 : decode cX6_notesAreWritten 9 = .ok (.iload_n 2, 1) := by decide +kernel
theorem dX6_notesAreWritten_10 : decode cX6_notesAreWritten 10 = .ok (.if_icmp .ge 109, 3) := by decide +kernel
theorem dX6_notesAreWritten_13 : decode cX6_notesAreWritten 13 = .ok (.bipush 7, 2) := by decide +kernel
theorem dX6_notesAreWritten_15 : decode cX6_notesAreWritten 15 = .ok (.iconst 3, 1) := by decide +kernel
theorem dX6_notesAreWritten_16 : decode cX6_notesAreWritten 16 = .ok (.iload_n 3, 1) := by decide +kernel
theorem dX6_notesAreWritten_17 : decode cX6_notesAreWritten 17 = .ok (.imul, 1) := by decide +kernel
theorem dX6_notesAreWritten_18 : decode cX6_notesAreWritten 18 = .ok (.iadd, 1) := by decide +kernel
theorem dX6_notesAreWritten_19 : decode cX6_notesAreWritten 19 = .ok (.istore 4, 2) := by decide +kernel
theorem dX6_notesAreWritten_21 : decode cX6_notesAreWritten 21 = .ok (.aload_n 0, 1) := by decide +kernel
theorem dX6_notesAreWritten_22 : decode cX6_notesAreWritten 22 = .ok (.iload 4, 2) := by decide +kernel
theorem dX6_notesAreWritten_24 : decode cX6_notesAreWritten 24 = .ok (.iconst 1, 1) := by decide +kernel
theorem dX6_notesAreWritten_25 : decode cX6_notesAreWritten 25 = .ok (.iadd, 1) := by decide +kernel
theorem dX6_notesAreWritten_26 : decode cX6_notesAreWritten 26 = .ok (.iaload, 1) := by decide +kernel
theorem dX6_notesAreWritten_27 : decode cX6_notesAreWritten 27 = .ok (.istore 5, 2) := by decide +kernel
theorem dX6_notesAreWritten_29 : decode cX6_notesAreWritten 29 = .ok (.aload_n 0, 1) := by decide +kernel
theorem dX6_notesAreWritten_30 : decode cX6_notesAreWritten 30 = .ok (.iload 4, 2) := by decide +kernel
theorem dX6_notesAreWritten_32 : decode cX6_notesAreWritten 32 = .ok (.iaload, 1) := by decide +kernel
theorem dX6_notesAreWritten_33 : decode cX6_notesAreWritten 33 = .ok (.aload_n 0, 1) := by decide +kernel
theorem dX6_notesAreWritten_34 : decode cX6_notesAreWritten 34 = .ok (.iconst 1, 1) := by decide +kernel
theorem dX6_notesAreWritten_35 : decode cX6_notesAreWritten 35 = .ok (.iaload, 1) := by decide +kernel
theorem dX6_notesAreWritten_36 : decode cX6_notesAreWritten 36 = .ok (.if_icmp .eq 49, 3) := by decide +kernel
theorem dX6_notesAreWritten_39 : decode cX6_notesAreWritten 39 = .ok (.aload_n 0, 1) := by decide +kernel
theorem dX6_notesAreWritten_40 : decode cX6_notesAreWritten 40 = .ok (.bipush 7, 2) := by decide +kernel
theorem dX6_notesAreWritten_42 : decode cX6_notesAreWritten 42 = .ok (.iconst 3, 1) := by decide +kernel
theorem dX6_notesAreWritten_43 : decode cX6_notesAreWritten 43 = .ok (.iload_n 1, 1) := by decide +kernel
theorem dX6_notesAreWritten_44 : decode cX6_notesAreWritten 44 = .ok (.imul, 1) := by decide +kernel
theorem dX6_notesAreWritten_45 : decode cX6_notesAreWritten 45 = .ok (.iadd, 1) := by decide +kernel
theorem dX6_notesAreWritten_46 : decode cX6_notesAreWritten 46 = .ok (.aload_n 0, 1) := by decide +kernel
theorem dX6_notesAreWritten_47 : decode cX6_notesAreWritten 47 = .ok (.iload 4, 2) := by decide +kernel
theorem dX6_notesAreWritten_49 : decode cX6_notesAreWritten 49 = .ok (.iaload, 1) := by decide +kernel
theorem dX6_notesAreWritten_50 : decode cX6_notesAreWritten 50 = .ok (.iastore, 1) := by decide +kernel
theorem dX6_notesAreWritten_51 : decode cX6_notesAreWritten 51 = .ok (.aload_n 0, 1) := by decide +kernel
theorem dX6_notesAreWritten_52 : decode cX6_notesAreWritten 52 = .ok (.bipush 7, 2) := by decide +kernel
theorem dX6_notesAreWritten_54 : decode cX6_notesAreWritten 54 = .ok (.iconst 3, 1) := by decide +kernel
theorem dX6_notesAreWritten_55 : decode cX6_notesAreWritten 55 = .ok (.iload_n 1, 1) := by decide +kernel
theorem dX6_notesAreWritten_56 : decode cX6_notesAreWritten 56 = .ok (.imul, 1) := by decide +kernel
theorem dX6_notesAreWritten_57 : decode cX6_notesAreWritten 57 = .ok (.iadd, 1) := by decide +kernel
theorem dX6_notesAreWritten_58 : decode cX6_notesAreWritten 58 = .ok (.iconst 1, 1) := by decide +kernel
theorem dX6_notesAreWritten_59 : decode cX6_notesAreWritten 59 = .ok (.iadd, 1) := by decide +kernel
theorem dX6_notesAreWritten_60 : decode cX6_notesAreWritten 60 = .ok (.iload 5, 2) := by decide +kernel
theorem dX6_notesAreWritten_62 : decode cX6_notesAreWritten 62 = .ok (.iastore, 1) := by decide +kernel
theorem dX6_notesAreWritten_63 : decode cX6_notesAreWritten 63 = .ok (.aload_n 0, 1) := by decide +kernel
theorem dX6_notesAreWritten_64 : decode cX6_notesAreWritten 64 = .ok (.bipush 7, 2) := by decide +kernel
theorem dX6_notesAreWritten_66 : decode cX6_notesAreWritten 66 = .ok (.iconst 3, 1) := by decide +kernel
theorem dX6_notesAreWritten_67 : decode cX6_notesAreWritten 67 = .ok (.iload_n 1, 1) := by decide +kernel
theorem dX6_notesAreWritten_68 : decode cX6_notesAreWritten 68 = .ok (.imul, 1) := by decide +kernel
theorem dX6_notesAreWritten_69 : decode cX6_notesAreWritten 69 = .ok (.iadd, 1) := by decide +kernel
theorem dX6_notesAreWritten_70 : decode cX6_notesAreWritten 70 = .ok (.iconst 2, 1) := by decide +kernel
theorem dX6_notesAreWritten_71 : decode cX6_notesAreWritten 71 = .ok (.iadd, 1) := by decide +kernel
theorem dX6_notesAreWritten_72 : decode cX6_notesAreWritten 72 = .ok (.aload_n 0, 1) := by decide +kernel
theorem dX6_notesAreWritten_73 : decode cX6_notesAreWritten 73 = .ok (.iload 4, 2) := by decide +kernel
theorem dX6_notesAreWritten_75 : decode cX6_notesAreWritten 75 = .ok (.iconst 2, 1) := by decide +kernel
theorem dX6_notesAreWritten_76 : decode cX6_notesAreWritten 76 = .ok (.iadd, 1) := by decide +kernel
theorem dX6_notesAreWritten_77 : decode cX6_notesAreWritten 77 = .ok (.iaload, 1) := by decide +kernel
theorem dX6_notesAreWritten_78 : decode cX6_notesAreWritten 78 = .ok (.iastore, 1) := by decide +kernel
theorem dX6_notesAreWritten_79 : decode cX6_notesAreWritten 79 = .ok (.iinc 1 1, 3) := by decide +kernel
theorem dX6_notesAreWritten_82 : decode cX6_notesAreWritten 82 = .ok (.goto 31, 3) := by decide +kernel
theorem dX6_notesAreWritten_85 : decode cX6_notesAreWritten 85 = .ok (.aload_n 0, 1) := by decide +kernel
theorem dX6_notesAreWritten_86 : decode cX6_notesAreWritten 86 = .ok (.iload 5, 2) := by decide +kernel
theorem dX6_notesAreWritten_88 : decode cX6_notesAreWritten 88 = .ok (.aload_n 0, 1) := by decide +kernel
theorem dX6_notesAreWritten_89 : decode cX6_notesAreWritten 89 = .ok (.iload 4, 2) := by decide +kernel
theorem dX6_notesAreWritten_91 : decode cX6_notesAreWritten 91 = .ok (.iconst 2, 1) := by decide +kernel
theorem dX6_notesAreWritten_92 : decode cX6_notesAreWritten 92 = .ok (.iadd, 1) := by decide +kernel
theorem dX6_notesAreWritten_93 : decode cX6_notesAreWritten 93 = .ok (.iaload, 1) := by decide +kernel
theorem dX6_notesAreWritten_94 : decode cX6_notesAreWritten 94 = .ok (.invokestatic 82, 3) := by decide +kernel
theorem dX6_notesAreWritten_97 : decode cX6_notesAreWritten 97 = .ok (.ifCond .eq 16, 3) := by decide +kernel
theorem dX6_notesAreWritten_100 : decode cX6_notesAreWritten 100 = .ok (.aload_n 0, 1) := by decide +kernel
theorem dX6_notesAreWritten_101 : decode cX6_notesAreWritten 101 = .ok (.iload 5, 2) := by decide +kernel
theorem dX6_notesAreWritten_103 : decode cX6_notesAreWritten 103 = .ok (.aload_n 0, 1) := by decide +kernel
theorem dX6_notesAreWritten_104 : decode cX6_notesAreWritten 104 = .ok (.iload 4, 2) := by decide +kernel
theorem dX6_notesAreWritten_106 : decode cX6_notesAreWritten 106 = .ok (.iconst 2, 1) := by decide +kernel
theorem dX6_notesAreWritten_107 : decode cX6_notesAreWritten 107 = .ok (.iadd, 1) := by decide +kernel
theorem dX6_notesAreWritten_108 : decode cX6_notesAreWritten 108 = .ok (.iaload, 1) := by decide +kernel
theorem dX6_notesAreWritten_109 : decode cX6_notesAreWritten 109 = .ok (.invokestatic 86, 3) := by decide +kernel
theorem dX6_notesAreWritten_112 : decode cX6_notesAreWritten 112 = .ok (.pop, 1) := by decide +kernel
theorem dX6_notesAreWritten_113 : decode cX6_notesAreWritten 113 = .ok (.iinc 3 1, 3) := by decide +kernel
theorem dX6_notesAreWritten_116 : decode cX6_notesAreWritten 116 = .ok (.goto (-108), 3) := by decide +kernel
theorem dX6_notesAreWritten_119 : decode cX6_notesAreWritten 119 = .ok (.aload_n 0, 1) := by decide +kernel
theorem dX6_notesAreWritten_120 : decode cX6_notesAreWritten 120 = .ok (.iconst 2, 1) := by decide +kernel
theorem dX6_notesAreWritten_121 : decode cX6_notesAreWritten 121 = .ok (.iload_n 1, 1) := by decide +kernel
theorem dX6_notesAreWritten_122 : decode cX6_notesAreWritten 122 = .ok (.iastore, 1) := by decide +kernel
theorem dX6_notesAreWritten_123 : decode cX6_notesAreWritten 123 = .ok (.return_, 1) := by decide +kernel
theorem dX6_tick_0 : decode cX6_tick 0 = .ok (.aload_n 0, 1) := by decide +kernel
theorem dX6_tick_1 : decode cX6_tick 1 = .ok (.iconst 1, 1) := by decide +kernel
theorem dX6_tick_2 : decode cX6_tick 2 = .ok (.dup2, 1) := by decide +kernel
theorem dX6_tick_3 : decode cX6_tick 3 = .ok (.iaload, 1) := by decide +kernel
theorem dX6_tick_4 : decode cX6_tick 4 = .ok (.iconst 1, 1) := by decide +kernel
theorem dX6_tick_5 : decode cX6_tick 5 = .ok (.iadd, 1) := by decide +kernel
theorem dX6_tick_6 : decode cX6_tick 6 = .ok (.iastore, 1) := by decide +kernel
theorem dX6_tick_7 : decode cX6_tick 7 = .ok (.aload_n 0, 1) := by decide +kernel
theorem dX6_tick_8 : decode cX6_tick 8 = .ok (.invokestatic 89, 3) := by decide +kernel
theorem dX6_tick_11 : decode cX6_tick 11 = .ok (.iconst 0, 1) := by decide +kernel
theorem dX6_tick_12 : decode cX6_tick 12 = .ok (.istore_n 1, 1) := by decide +kernel
theorem dX6_tick_13 : decode cX6_tick 13 = .ok (.iload_n 1, 1) := by decide +kernel
theorem dX6_tick_14 : decode cX6_tick 14 = .ok (.aload_n 0, 1) := by decide +kernel
theorem dX6_tick_15 : decode cX6_tick 15 = .ok (.iconst 0, 1) := by decide +kernel
theorem dX6_tick_16 : decode cX6_tick 16 = .ok (.iaload, 1) := by decide +kernel
theorem dX6_tick_17 : decode cX6_tick 17 = .ok (.if_icmp .ge 14, 3) := by decide +kernel
theorem dX6_tick_20 : decode cX6_tick 20 = .ok (.aload_n 0, 1) := by decide +kernel
theorem dX6_tick_21 : decode cX6_tick 21 = .ok (.iload_n 1, 1) := by decide +kernel
theorem dX6_tick_22 : decode cX6_tick 22 = .ok (.invokestatic 92, 3) := by decide +kernel
theorem dX6_tick_25 : decode cX6_tick 25 = .ok (.iinc 1 1, 3) := by decide +kernel
theorem dX6_tick_28 : decode cX6_tick 28 = .ok (.goto (-15), 3) := by decide +kernel
theorem dX6_tick_31 : decode cX6_tick 31 = .ok (.return_, 1) := by decide +kernel
theorem dX6_ticksOn_0 : decode cX6_ticksOn 0 = .ok (.aload_n 0, 1) := by decide +kernel
theorem dX6_ticksOn_1 : decode cX6_ticksOn 1 = .ok (.bipush 8, 2) := by decide +kernel
theorem dX6_ticksOn_3 : decode cX6_ticksOn 3 = .ok (.invokestatic 95, 3) := by decide +kernel
theorem dX6_ticksOn_6 : decode cX6_ticksOn 6 = .ok (.istore_n 2, 1) := by decide +kernel
theorem dX6_ticksOn_7 : decode cX6_ticksOn 7 = .ok (.iconst 0, 1) := by decide +kernel
theorem dX6_ticksOn_8 : decode cX6_ticksOn 8 = .ok (.istore_n 3, 1) := by decide +kernel
theorem dX6_ticksOn_9 : decode cX6_ticksOn 9 = .ok (.iload_n 3, 1) := by decide +kernel
theorem dX6_ticksOn_10 : decode cX6_ticksOn 10 = .ok (.iload_n 1, 1) := by decide +kernel
theorem dX6_ticksOn_11 : decode cX6_ticksOn 11 = .ok (.if_icmp .ge 13, 3) := by decide +kernel
theorem dX6_ticksOn_14 : decode cX6_ticksOn 14 = .ok (.aload_n 0, 1) := by decide +kernel
theorem dX6_ticksOn_15 : decode cX6_ticksOn 15 = .ok (.invokestatic 98, 3) := by decide +kernel
theorem dX6_ticksOn_18 : decode cX6_ticksOn 18 = .ok (.iinc 3 1, 3) := by decide +kernel
theorem dX6_ticksOn_21 : decode cX6_ticksOn 21 = .ok (.goto (-12), 3) := by decide +kernel
theorem dX6_ticksOn_24 : decode cX6_ticksOn 24 = .ok (.aload_n 0, 1) := by decide +kernel
theorem dX6_ticksOn_25 : decode cX6_ticksOn 25 = .ok (.bipush 8, 2) := by decide +kernel
theorem dX6_ticksOn_27 : decode cX6_ticksOn 27 = .ok (.invokestatic 95, 3) := by decide +kernel
theorem dX6_ticksOn_30 : decode cX6_ticksOn 30 = .ok (.iload_n 2, 1) := by decide +kernel
theorem dX6_ticksOn_31 : decode cX6_ticksOn 31 = .ok (.isub, 1) := by decide +kernel
theorem dX6_ticksOn_32 : decode cX6_ticksOn 32 = .ok (.ireturn, 1) := by decide +kernel
theorem dX6_planOn_0 : decode cX6_planOn 0 = .ok (.bipush 7, 2) := by decide +kernel
theorem dX6_planOn_2 : decode cX6_planOn 2 = .ok (.iconst 3, 1) := by decide +kernel
theorem dX6_planOn_3 : decode cX6_planOn 3 = .ok (.aload_n 0, 1) := by decide +kernel
theorem dX6_planOn_4 : decode cX6_planOn 4 = .ok (.iconst 2, 1) := by decide +kernel
theorem dX6_planOn_5 : decode cX6_planOn 5 = .ok (.iaload, 1) := by decide +kernel
theorem dX6_planOn_6 : decode cX6_planOn 6 = .ok (.imul, 1) := by decide +kernel
theorem dX6_planOn_7 : decode cX6_planOn 7 = .ok (.iadd, 1) := by decide +kernel
theorem dX6_planOn_8 : decode cX6_planOn 8 = .ok (.istore 4, 2) := by decide +kernel
theorem dX6_planOn_10 : decode cX6_planOn 10 = .ok (.aload_n 0, 1) := by decide +kernel
theorem dX6_planOn_11 : decode cX6_planOn 11 = .ok (.iload 4, 2) := by decide +kernel
theorem dX6_planOn_13 : decode cX6_planOn 13 = .ok (.aload_n 0, 1) := by decide +kernel
theorem dX6_planOn_14 : decode cX6_planOn 14 = .ok (.iconst 1, 1) := by decide +kernel
theorem dX6_planOn_15 : decode cX6_planOn 15 = .ok (.iaload, 1) := by decide +kernel
theorem dX6_planOn_16 : decode cX6_planOn 16 = .ok (.iload_n 1, 1) := by decide +kernel
theorem dX6_planOn_17 : decode cX6_planOn 17 = .ok (.iadd, 1) := by decide +kernel
theorem dX6_planOn_18 : decode cX6_planOn 18 = .ok (.iastore, 1) := by decide +kernel
theorem dX6_planOn_19 : decode cX6_planOn 19 = .ok (.aload_n 0, 1) := by decide +kernel
theorem dX6_planOn_20 : decode cX6_planOn 20 = .ok (.iload 4, 2) := by decide +kernel
theorem dX6_planOn_22 : decode cX6_planOn 22 = .ok (.iconst 1, 1) := by decide +kernel
theorem dX6_planOn_23 : decode cX6_planOn 23 = .ok (.iadd, 1) := by decide +kernel
theorem dX6_planOn_24 : decode cX6_planOn 24 = .ok (.iload_n 2, 1) := by decide +kernel
theorem dX6_planOn_25 : decode cX6_planOn 25 = .ok (.iastore, 1) := by decide +kernel
theorem dX6_planOn_26 : decode cX6_planOn 26 = .ok (.aload_n 0, 1) := by decide +kernel
theorem dX6_planOn_27 : decode cX6_planOn 27 = .ok (.iload 4, 2) := by decide +kernel
theorem dX6_planOn_29 : decode cX6_planOn 29 = .ok (.iconst 2, 1) := by decide +kernel
theorem dX6_planOn_30 : decode cX6_planOn 30 = .ok (.iadd, 1) := by decide +kernel
theorem dX6_planOn_31 : decode cX6_planOn 31 = .ok (.iload_n 3, 1) := by decide +kernel
theorem dX6_planOn_32 : decode cX6_planOn 32 = .ok (.iastore, 1) := by decide +kernel
theorem dX6_planOn_33 : decode cX6_planOn 33 = .ok (.aload_n 0, 1) := by decide +kernel
theorem dX6_planOn_34 : decode cX6_planOn 34 = .ok (.iconst 2, 1) := by decide +kernel
theorem dX6_planOn_35 : decode cX6_planOn 35 = .ok (.dup2, 1) := by decide +kernel
theorem dX6_planOn_36 : decode cX6_planOn 36 = .ok (.iaload, 1) := by decide +kernel
theorem dX6_planOn_37 : decode cX6_planOn 37 = .ok (.iconst 1, 1) := by decide +kernel
theorem dX6_planOn_38 : decode cX6_planOn 38 = .ok (.iadd, 1) := by decide +kernel
theorem dX6_planOn_39 : decode cX6_planOn 39 = .ok (.iastore, 1) := by decide +kernel
theorem dX6_planOn_40 : decode cX6_planOn 40 = .ok (.aload_n 0, 1) := by decide +kernel
theorem dX6_planOn_41 : decode cX6_planOn 41 = .ok (.iconst 2, 1) := by decide +kernel
theorem dX6_planOn_42 : decode cX6_planOn 42 = .ok (.iaload, 1) := by decide +kernel
theorem dX6_planOn_43 : decode cX6_planOn 43 = .ok (.ireturn, 1) := by decide +kernel
theorem dX6_holdOn_0 : decode cX6_holdOn 0 = .ok (.aload_n 0, 1) := by decide +kernel
theorem dX6_holdOn_1 : decode cX6_holdOn 1 = .ok (.iload_n 1, 1) := by decide +kernel
theorem dX6_holdOn_2 : decode cX6_holdOn 2 = .ok (.iconst 1, 1) := by decide +kernel
theorem dX6_holdOn_3 : decode cX6_holdOn 3 = .ok (.iload_n 2, 1) := by decide +kernel
theorem dX6_holdOn_4 : decode cX6_holdOn 4 = .ok (.ifCond .eq 7, 3) := by decide +kernel
theorem dX6_holdOn_7 : decode cX6_holdOn 7 = .ok (.iconst 1, 1) := by decide +kernel
theorem dX6_holdOn_8 : decode cX6_holdOn 8 = .ok (.goto 4, 3) := by decide +kernel
theorem dX6_holdOn_11 : decode cX6_holdOn 11 = .ok (.iconst 0, 1) := by decide +kernel
theorem dX6_holdOn_12 : decode cX6_holdOn 12 = .ok (.invokestatic 44, 3) := by decide +kernel
theorem dX6_holdOn_15 : decode cX6_holdOn 15 = .ok (.aload_n 0, 1) := by decide +kernel
theorem dX6_holdOn_16 : decode cX6_holdOn 16 = .ok (.iload_n 1, 1) := by decide +kernel
theorem dX6_holdOn_17 : decode cX6_holdOn 17 = .ok (.invokestatic 66, 3) := by decide +kernel
theorem dX6_holdOn_20 : decode cX6_holdOn 20 = .ok (.ireturn, 1) := by decide +kernel
theorem dX6_isSetting_0 : decode cX6_isSetting 0 = .ok (.iload_n 0, 1) := by decide +kernel
theorem dX6_isSetting_1 : decode cX6_isSetting 1 = .ok (.ifCond .ne 15, 3) := by decide +kernel
theorem dX6_isSetting_4 : decode cX6_isSetting 4 = .ok (.iload_n 1, 1) := by decide +kernel
theorem dX6_isSetting_5 : decode cX6_isSetting 5 = .ok (.i2l, 1) := by decide +kernel
theorem dX6_isSetting_6 : decode cX6_isSetting 6 = .ok (.lconst 1, 1) := by decide +kernel
theorem dX6_isSetting_7 : decode cX6_isSetting 7 = .ok (.ldc2_w 101, 3) := by decide +kernel
theorem dX6_isSetting_10 : decode cX6_isSetting 10 = .ok (.invokestatic 48, 3) := by decide +kernel
theorem dX6_isSetting_13 : decode cX6_isSetting 13 = .ok (.ifCond .ne 56, 3) := by decide +kernel
theorem dX6_isSetting_16 : decode cX6_isSetting 16 = .ok (.iload_n 0, 1) := by decide +kernel
theorem dX6_isSetting_17 : decode cX6_isSetting 17 = .ok (.iconst 1, 1) := by decide +kernel
theorem dX6_isSetting_18 : decode cX6_isSetting 18 = .ok (.if_icmp .ne 15, 3) := by decide +kernel
theorem dX6_isSetting_21 : decode cX6_isSetting 21 = .ok (.iload_n 1, 1) := by decide +kernel
theorem dX6_isSetting_22 : decode cX6_isSetting 22 = .ok (.i2l, 1) := by decide +kernel
theorem dX6_isSetting_23 : decode cX6_isSetting 23 = .ok (.lconst 0, 1) := by decide +kernel
theorem dX6_isSetting_24 : decode cX6_isSetting 24 = .ok (.ldc2_w 103, 3) := by decide +kernel
theorem dX6_isSetting_27 : decode cX6_isSetting 27 = .ok (.invokestatic 48, 3) := by decide +kernel
theorem dX6_isSetting_30 : decode cX6_isSetting 30 = .ok (.ifCond .ne 39, 3) := by decide +kernel
theorem dX6_isSetting_33 : decode cX6_isSetting 33 = .ok (.iload_n 0, 1) := by decide +kernel
theorem dX6_isSetting_34 : decode cX6_isSetting 34 = .ok (.iconst 2, 1) := by decide +kernel
theorem dX6_isSetting_35 : decode cX6_isSetting 35 = .ok (.if_icmp .ne 17, 3) := by decide +kernel
theorem dX6_isSetting_38 : decode cX6_isSetting 38 = .ok (.iload_n 1, 1) := by decide +kernel
theorem dX6_isSetting_39 : decode cX6_isSetting 39 = .ok (.i2l, 1) := by decide +kernel
theorem dX6_isSetting_40 : decode cX6_isSetting 40 = .ok (.ldc2_w 105, 3) := by decide +kernel
theorem dX6_isSetting_43 : decode cX6_isSetting 43 = .ok (.ldc2_w 107, 3) := by decide +kernel
theorem dX6_isSetting_46 : decode cX6_isSetting 46 = .ok (.invokestatic 48, 3) := by decide +kernel
theorem dX6_isSetting_49 : decode cX6_isSetting 49 = .ok (.ifCond .ne 20, 3) := by decide +kernel
theorem dX6_isSetting_52 : decode cX6_isSetting 52 = .ok (.iload_n 0, 1) := by decide +kernel
theorem dX6_isSetting_53 : decode cX6_isSetting 53 = .ok (.iconst 3, 1) := by decide +kernel
theorem dX6_isSetting_54 : decode cX6_isSetting 54 = .ok (.if_icmp .ne 19, 3) := by decide +kernel
theorem dX6_isSetting_57 : decode cX6_isSetting 57 = .ok (.iload_n 1, 1) := by decide +kernel
theorem dX6_isSetting_58 : decode cX6_isSetting 58 = .ok (.i2l, 1) := by decide +kernel
theorem dX6_isSetting_59 : decode cX6_isSetting 59 = .ok (.lconst 1, 1) := by decide +kernel
theorem dX6_isSetting_60 : decode cX6_isSetting 60 = .ok (.ldc2_w 109, 3) := by decide +kernel
theorem dX6_isSetting_63 : decode cX6_isSetting 63 = .ok (.invokestatic 48, 3) := by decide +kernel
theorem dX6_isSetting_66 : decode cX6_isSetting 66 = .ok (.ifCond .eq 7, 3) := by decide +kernel
theorem dX6_isSetting_69 : decode cX6_isSetting 69 = .ok (.iconst 1, 1) := by decide +kernel
theorem dX6_isSetting_70 : decode cX6_isSetting 70 = .ok (.goto 4, 3) := by decide +kernel
theorem dX6_isSetting_73 : decode cX6_isSetting 73 = .ok (.iconst 0, 1) := by decide +kernel
theorem dX6_isSetting_74 : decode cX6_isSetting 74 = .ok (.ireturn, 1) := by decide +kernel
theorem dX6_isDone_0 : decode cX6_isDone 0 = .ok (.aload_n 0, 1) := by decide +kernel
theorem dX6_isDone_1 : decode cX6_isDone 1 = .ok (.iload_n 1, 1) := by decide +kernel
theorem dX6_isDone_2 : decode cX6_isDone 2 = .ok (.iconst 0, 1) := by decide +kernel
theorem dX6_isDone_3 : decode cX6_isDone 3 = .ok (.invokestatic 54, 3) := by decide +kernel
theorem dX6_isDone_6 : decode cX6_isDone 6 = .ok (.ifCond .ne 17, 3) := by decide +kernel
theorem dX6_isDone_9 : decode cX6_isDone 9 = .ok (.aload_n 0, 1) := by decide +kernel
theorem dX6_isDone_10 : decode cX6_isDone 10 = .ok (.iload_n 1, 1) := by decide +kernel
theorem dX6_isDone_11 : decode cX6_isDone 11 = .ok (.bipush 6, 2) := by decide +kernel
theorem dX6_isDone_13 : decode cX6_isDone 13 = .ok (.invokestatic 54, 3) := by decide +kernel
theorem dX6_isDone_16 : decode cX6_isDone 16 = .ok (.ifCond .ne 7, 3) := by decide +kernel
theorem dX6_isDone_19 : decode cX6_isDone 19 = .ok (.iconst 1, 1) := by decide +kernel
theorem dX6_isDone_20 : decode cX6_isDone 20 = .ok (.goto 4, 3) := by decide +kernel
theorem dX6_isDone_23 : decode cX6_isDone 23 = .ok (.iconst 0, 1) := by decide +kernel
theorem dX6_isDone_24 : decode cX6_isDone 24 = .ok (.istore_n 2, 1) := by decide +kernel
theorem dX6_isDone_25 : decode cX6_isDone 25 = .ok (.iconst 0, 1) := by decide +kernel
theorem dX6_isDone_26 : decode cX6_isDone 26 = .ok (.istore_n 3, 1) := by decide +kernel
theorem dX6_isDone_27 : decode cX6_isDone 27 = .ok (.iload_n 3, 1) := by decide +kernel
theorem dX6_isDone_28 : decode cX6_isDone 28 = .ok (.aload_n 0, 1) := by decide +kernel
theorem dX6_isDone_29 : decode cX6_isDone 29 = .ok (.iconst 2, 1) := by decide +kernel
theorem dX6_isDone_30 : decode cX6_isDone 30 = .ok (.iaload, 1) := by decide +kernel
theorem dX6_isDone_31 : decode cX6_isDone 31 = .ok (.if_icmp .ge 33, 3) := by decide +kernel
theorem dX6_isDone_34 : decode cX6_isDone 34 = .ok (.iload_n 2, 1) := by decide +kernel
theorem dX6_isDone_35 : decode cX6_isDone 35 = .ok (.ifCond .eq 21, 3) := by decide +kernel
theorem dX6_isDone_38 : decode cX6_isDone 38 = .ok (.aload_n 0, 1) := by decide +kernel
theorem dX6_isDone_39 : decode cX6_isDone 39 = .ok (.bipush 7, 2) := by decide +kernel
theorem dX6_isDone_41 : decode cX6_isDone 41 = .ok (.iconst 3, 1) := by decide +kernel
theorem dX6_isDone_42 : decode cX6_isDone 42 = .ok (.iload_n 3, 1) := by decide +kernel
theorem dX6_isDone_43 : decode cX6_isDone 43 = .ok (.imul, 1) := by decide +kernel
theorem dX6_isDone_44 : decode cX6_isDone 44 = .ok (.iadd, 1) := by decide +kernel
theorem dX6_isDone_45 : decode cX6_isDone 45 = .ok (.iconst 1, 1) := by decide +kernel
theorem dX6_isDone_46 : decode cX6_isDone 46 = .ok (.iadd, 1) := by decide +kernel
theorem dX6_isDone_47 : decode cX6_isDone 47 = .ok (.iaload, 1) := by decide +kernel
theorem dX6_isDone_48 : decode cX6_isDone 48 = .ok (.iload_n 1, 1) := by decide +kernel
theorem dX6_isDone_49 : decode cX6_isDone 49 = .ok (.if_icmp .eq 7, 3) := by decide +kernel
theorem dX6_isDone_52 : decode cX6_isDone 52 = .ok (.iconst 1, 1) := by decide +kernel
theorem dX6_isDone_53 : decode cX6_isDone 53 = .ok (.goto 4, 3) := by decide +kernel
theorem dX6_isDone_56 : decode cX6_isDone 56 = .ok (.iconst 0, 1) := by decide +kernel
theorem dX6_isDone_57 : decode cX6_isDone 57 = .ok (.istore_n 2, 1) := by decide +kernel
theorem dX6_isDone_58 : decode cX6_isDone 58 = .ok (.iinc 3 1, 3) := by decide +kernel
theorem dX6_isDone_61 : decode cX6_isDone 61 = .ok (.goto (-34), 3) := by decide +kernel
theorem dX6_isDone_64 : decode cX6_isDone 64 = .ok (.iload_n 2, 1) := by decide +kernel
theorem dX6_isDone_65 : decode cX6_isDone 65 = .ok (.ireturn, 1) := by decide +kernel
theorem dX6_untilDone_0 : decode cX6_untilDone 0 = .ok (.iconst 0, 1) := by decide +kernel
theorem dX6_untilDone_1 : decode cX6_untilDone 1 = .ok (.istore_n 2, 1) := by decide +kernel
theorem dX6_untilDone_2 : decode cX6_untilDone 2 = .ok (.iload_n 2, 1) := by decide +kernel
theorem dX6_untilDone_3 : decode cX6_untilDone 3 = .ok (.sipush 400, 3) := by decide +kernel
theorem dX6_untilDone_6 : decode cX6_untilDone 6 = .ok (.if_icmp .ge 21, 3) := by decide +kernel
theorem dX6_untilDone_9 : decode cX6_untilDone 9 = .ok (.aload_n 0, 1) := by decide +kernel
theorem dX6_untilDone_10 : decode cX6_untilDone 10 = .ok (.iload_n 1, 1) := by decide +kernel
theorem dX6_untilDone_11 : decode cX6_untilDone 11 = .ok (.invokestatic 111, 3) := by decide +kernel
theorem dX6_untilDone_14 : decode cX6_untilDone 14 = .ok (.ifCond .ne 13, 3) := by decide +kernel
theorem dX6_untilDone_17 : decode cX6_untilDone 17 = .ok (.aload_n 0, 1) := by decide +kernel
theorem dX6_untilDone_18 : decode cX6_untilDone 18 = .ok (.invokestatic 98, 3) := by decide +kernel
theorem dX6_untilDone_21 : decode cX6_untilDone 21 = .ok (.iinc 2 1, 3) := by decide +kernel
theorem dX6_untilDone_24 : decode cX6_untilDone 24 = .ok (.goto (-22), 3) := by decide +kernel
theorem dX6_untilDone_27 : decode cX6_untilDone 27 = .ok (.aload_n 0, 1) := by decide +kernel
theorem dX6_untilDone_28 : decode cX6_untilDone 28 = .ok (.iload_n 1, 1) := by decide +kernel
theorem dX6_untilDone_29 : decode cX6_untilDone 29 = .ok (.invokestatic 111, 3) := by decide +kernel
theorem dX6_untilDone_32 : decode cX6_untilDone 32 = .ok (.ifCond .eq 7, 3) := by decide +kernel
theorem dX6_untilDone_35 : decode cX6_untilDone 35 = .ok (.iload_n 2, 1) := by decide +kernel
theorem dX6_untilDone_36 : decode cX6_untilDone 36 = .ok (.goto 4, 3) := by decide +kernel
theorem dX6_untilDone_39 : decode cX6_untilDone 39 = .ok (.iconst (-1), 1) := by decide +kernel
theorem dX6_untilDone_40 : decode cX6_untilDone 40 = .ok (.ireturn, 1) := by decide +kernel
theorem dX6_append_0 : decode cX6_append 0 = .ok (.aload_n 0, 1) := by decide +kernel
theorem dX6_append_1 : decode cX6_append 1 = .ok (.iload_n 1, 1) := by decide +kernel
theorem dX6_append_2 : decode cX6_append 2 = .ok (.i2l, 1) := by decide +kernel
theorem dX6_append_3 : decode cX6_append 3 = .ok (.lconst 0, 1) := by decide +kernel
theorem dX6_append_4 : decode cX6_append 4 = .ok (.ldc2_w 115, 3) := by decide +kernel
theorem dX6_append_7 : decode cX6_append 7 = .ok (.invokestatic 48, 3) := by decide +kernel
theorem dX6_append_10 : decode cX6_append 10 = .ok (.ifCond .ne 7, 3) := by decide +kernel
theorem dX6_append_13 : decode cX6_append 13 = .ok (.iconst 1, 1) := by decide +kernel
theorem dX6_append_14 : decode cX6_append 14 = .ok (.goto 17, 3) := by decide +kernel
theorem dX6_append_17 : decode cX6_append 17 = .ok (.aload_n 0, 1) := by decide +kernel
theorem dX6_append_18 : decode cX6_append 18 = .ok (.getfield 117, 3) := by decide +kernel
theorem dX6_append_21 : decode cX6_append 21 = .ok (.bipush 120, 2) := by decide +kernel
theorem dX6_append_23 : decode cX6_append 23 = .ok (.if_icmp .ne 7, 3) := by decide +kernel
theorem dX6_append_26 : decode cX6_append 26 = .ok (.iconst 2, 1) := by decide +kernel
theorem dX6_append_27 : decode cX6_append 27 = .ok (.goto 4, 3) := by decide +kernel
theorem dX6_append_30 : decode cX6_append 30 = .ok (.iconst 0, 1) := by decide +kernel
theorem dX6_append_31 : decode cX6_append 31 = .ok (.invokevirtual 120, 3) := by decide +kernel
theorem dX6_append_34 : decode cX6_append 34 = .ok (.ifCond .eq 5, 3) := by decide +kernel
theorem dX6_append_37 : decode cX6_append 37 = .ok (.iconst 0, 1) := by decide +kernel
theorem dX6_append_38 : decode cX6_append 38 = .ok (.ireturn, 1) := by decide +kernel
theorem dX6_append_39 : decode cX6_append 39 = .ok (.aload_n 0, 1) := by decide +kernel
theorem dX6_append_40 : decode cX6_append 40 = .ok (.getfield 7, 3) := by decide +kernel
theorem dX6_append_43 : decode cX6_append 43 = .ok (.aload_n 0, 1) := by decide +kernel
theorem dX6_append_44 : decode cX6_append 44 = .ok (.getfield 117, 3) := by decide +kernel
theorem dX6_append_47 : decode cX6_append 47 = .ok (.iload_n 1, 1) := by decide +kernel
theorem dX6_append_48 : decode cX6_append 48 = .ok (.iastore, 1) := by decide +kernel
theorem dX6_append_49 : decode cX6_append 49 = .ok (.aload_n 0, 1) := by decide +kernel
theorem dX6_append_50 : decode cX6_append 50 = .ok (.dup, 1) := by decide +kernel
theorem dX6_append_51 : decode cX6_append 51 = .ok (.getfield 117, 3) := by decide +kernel
theorem dX6_append_54 : decode cX6_append 54 = .ok (.iconst 1, 1) := by decide +kernel
theorem dX6_append_55 : decode cX6_append 55 = .ok (.iadd, 1) := by decide +kernel
theorem dX6_append_56 : decode cX6_append 56 = .ok (.putfield 117, 3) := by decide +kernel
theorem dX6_append_59 : decode cX6_append 59 = .ok (.aload_n 0, 1) := by decide +kernel
theorem dX6_append_60 : decode cX6_append 60 = .ok (.getfield 117, 3) := by decide +kernel
theorem dX6_append_63 : decode cX6_append 63 = .ok (.ireturn, 1) := by decide +kernel
theorem dX6_clearText_0 : decode cX6_clearText 0 = .ok (.aload_n 0, 1) := by decide +kernel
theorem dX6_clearText_1 : decode cX6_clearText 1 = .ok (.iconst 0, 1) := by decide +kernel
theorem dX6_clearText_2 : decode cX6_clearText 2 = .ok (.putfield 40, 3) := by decide +kernel
theorem dX6_clearText_5 : decode cX6_clearText 5 = .ok (.aload_n 0, 1) := by decide +kernel
theorem dX6_clearText_6 : decode cX6_clearText 6 = .ok (.getfield 117, 3) := by decide +kernel
theorem dX6_clearText_9 : decode cX6_clearText 9 = .ok (.istore_n 1, 1) := by decide +kernel
theorem dX6_clearText_10 : decode cX6_clearText 10 = .ok (.aload_n 0, 1) := by decide +kernel
theorem dX6_clearText_11 : decode cX6_clearText 11 = .ok (.iconst 0, 1) := by decide +kernel
theorem dX6_clearText_12 : decode cX6_clearText 12 = .ok (.putfield 117, 3) := by decide +kernel
theorem dX6_clearText_15 : decode cX6_clearText 15 = .ok (.iload_n 1, 1) := by decide +kernel
theorem dX6_clearText_16 : decode cX6_clearText 16 = .ok (.ireturn, 1) := by decide +kernel
theorem dX6_figures_0 : decode cX6_figures 0 = .ok (.iconst 0, 1) := by decide +kernel
theorem dX6_figures_1 : decode cX6_figures 1 = .ok (.istore 5, 2) := by decide +kernel
theorem dX6_figures_3 : decode cX6_figures 3 = .ok (.iload_n 2, 1) := by decide +kernel
theorem dX6_figures_4 : decode cX6_figures 4 = .ok (.iconst 3, 1) := by decide +kernel
theorem dX6_figures_5 : decode cX6_figures 5 = .ok (.if_icmp .ne 8, 3) := by decide +kernel
theorem dX6_figures_8 : decode cX6_figures 8 = .ok (.bipush 100, 2) := by decide +kernel
theorem dX6_figures_10 : decode cX6_figures 10 = .ok (.goto 14, 3) := by decide +kernel
theorem dX6_figures_13 : decode cX6_figures 13 = .ok (.iload_n 2, 1) := by decide +kernel
theorem dX6_figures_14 : decode cX6_figures 14 = .ok (.iconst 2, 1) := by decide +kernel
theorem dX6_figures_15 : decode cX6_figures 15 = .ok (.if_icmp .ne 8, 3) := by decide +kernel
theorem dX6_figures_18 : decode cX6_figures 18 = .ok (.bipush 10, 2) := by decide +kernel
theorem dX6_figures_20 : decode cX6_figures 20 = .ok (.goto 4, 3) := by decide +kernel
theorem dX6_figures_23 : decode cX6_figures 23 = .ok (.iconst 1, 1) := by decide +kernel
theorem dX6_figures_24 : decode cX6_figures 24 = .ok (.istore 6, 2) := by decide +kernel
theorem dX6_figures_26 : decode cX6_figures 26 = .ok (.iload 6, 2) := by decide +kernel
theorem dX6_figures_28 : decode cX6_figures 28 = .ok (.ifCond .le 104, 3) := by decide +kernel
theorem dX6_figures_31 : decode cX6_figures 31 = .ok (.iload_n 1, 1) := by decide +kernel
theorem dX6_figures_32 : decode cX6_figures 32 = .ok (.iconst (-1), 1) := by decide +kernel
theorem dX6_figures_33 : decode cX6_figures 33 = .ok (.if_icmp .eq 99, 3) := by decide +kernel
theorem dX6_figures_36 : decode cX6_figures 36 = .ok (.aload_n 0, 1) := by decide +kernel
theorem dX6_figures_37 : decode cX6_figures 37 = .ok (.getfield 124, 3) := by decide +kernel
theorem dX6_figures_40 : decode cX6_figures 40 = .ok (.aload_n 0, 1) := by decide +kernel
theorem dX6_figures_41 : decode cX6_figures 41 = .ok (.getfield 117, 3) := by decide +kernel
theorem dX6_figures_44 : decode cX6_figures 44 = .ok (.if_icmp .ge 18, 3) := by decide +kernel
theorem dX6_figures_47 : decode cX6_figures 47 = .ok (.aload_n 0, 1) := by decide +kernel
theorem dX6_figures_48 : decode cX6_figures 48 = .ok (.getfield 7, 3) := by decide +kernel
theorem dX6_figures_51 : decode cX6_figures 51 = .ok (.aload_n 0, 1) := by decide +kernel
theorem dX6_figures_52 : decode cX6_figures 52 = .ok (.getfield 124, 3) := by decide +kernel
theorem dX6_figures_55 : decode cX6_figures 55 = .ok (.iaload, 1) := by decide +kernel
theorem dX6_figures_56 : decode cX6_figures 56 = .ok (.bipush 48, 2) := by decide +kernel
theorem dX6_figures_58 : decode cX6_figures 58 = .ok (.isub, 1) := by decide +kernel
theorem dX6_figures_59 : decode cX6_figures 59 = .ok (.goto 4, 3) := by decide +kernel
theorem dX6_figures_62 : decode cX6_figures 62 = .ok (.iconst (-1), 1) := by decide +kernel
theorem dX6_figures_63 : decode cX6_figures 63 = .ok (.istore 7, 2) := by decide +kernel
theorem dX6_figures_65 : decode cX6_figures 65 = .ok (.iload 5, 2) := by decide +kernel
theorem dX6_figures_67 : decode cX6_figures 67 = .ok (.iload 7, 2) := by decide +kernel
theorem dX6_figures_69 : decode cX6_figures 69 = .ok (.iload 6, 2) := by decide +kernel
theorem dX6_figures_71 : decode cX6_figures 71 = .ok (.imul, 1) := by decide +kernel
theorem dX6_figures_72 : decode cX6_figures 72 = .ok (.iadd, 1) := by decide +kernel
theorem dX6_figures_73 : decode cX6_figures 73 = .ok (.istore 8, 2) := by decide +kernel
theorem dX6_figures_75 : decode cX6_figures 75 = .ok (.iload 7, 2) := by decide +kernel
theorem dX6_figures_77 : decode cX6_figures 77 = .ok (.i2l, 1) := by decide +kernel
theorem dX6_figures_78 : decode cX6_figures 78 = .ok (.lconst 0, 1) := by decide +kernel
theorem dX6_figures_79 : decode cX6_figures 79 = .ok (.ldc2_w 101, 3) := by decide +kernel
theorem dX6_figures_82 : decode cX6_figures 82 = .ok (.invokestatic 48, 3) := by decide +kernel
theorem dX6_figures_85 : decode cX6_figures 85 = .ok (.ifCond .eq 21, 3) := by decide +kernel
theorem dX6_figures_88 : decode cX6_figures 88 = .ok (.iload 8, 2) := by decide +kernel
theorem dX6_figures_90 : decode cX6_figures 90 = .ok (.iload 4, 2) := by decide +kernel
theorem dX6_figures_92 : decode cX6_figures 92 = .ok (.if_icmp .gt 14, 3) := by decide +kernel
theorem dX6_figures_95 : decode cX6_figures 95 = .ok (.iload 8, 2) := by decide +kernel
theorem dX6_figures_97 : decode cX6_figures 97 = .ok (.iload 6, 2) := by decide +kernel
theorem dX6_figures_99 : decode cX6_figures 99 = .ok (.iadd, 1) := by decide +kernel
theorem dX6_figures_100 : decode cX6_figures 100 = .ok (.iconst 1, 1) := by decide +kernel
theorem dX6_figures_101 : decode cX6_figures 101 = .ok (.isub, 1) := by decide +kernel
theorem dX6_figures_102 : decode cX6_figures 102 = .ok (.iload_n 3, 1) := by decide +kernel
theorem dX6_figures_103 : decode cX6_figures 103 = .ok (.if_icmp .ge 5, 3) := by decide +kernel
theorem dX6_figures_106 : decode cX6_figures 106 = .ok (.iconst (-1), 1) := by decide +kernel
theorem dX6_figures_107 : decode cX6_figures 107 = .ok (.ireturn, 1) := by decide +kernel
theorem dX6_figures_108 : decode cX6_figures 108 = .ok (.iload 8, 2) := by decide +kernel
theorem dX6_figures_110 : decode cX6_figures 110 = .ok (.istore 5, 2) := by decide +kernel
theorem dX6_figures_112 : decode cX6_figures 112 = .ok (.aload_n 0, 1) := by decide +kernel
theorem dX6_figures_113 : decode cX6_figures 113 = .ok (.dup, 1) := by decide +kernel
theorem dX6_figures_114 : decode cX6_figures 114 = .ok (.getfield 124, 3) := by decide +kernel
theorem dX6_figures_117 : decode cX6_figures 117 = .ok (.iconst 1, 1) := by decide +kernel
theorem dX6_figures_118 : decode cX6_figures 118 = .ok (.iadd, 1) := by decide +kernel
theorem dX6_figures_119 : decode cX6_figures 119 = .ok (.putfield 124, 3) := by decide +kernel
theorem dX6_figures_122 : decode cX6_figures 122 = .ok (.iload 6, 2) := by decide +kernel
theorem dX6_figures_124 : decode cX6_figures 124 = .ok (.bipush 10, 2) := by decide +kernel
theorem dX6_figures_126 : decode cX6_figures 126 = .ok (.idiv, 1) := by decide +kernel
theorem dX6_figures_127 : decode cX6_figures 127 = .ok (.istore 6, 2) := by decide +kernel
theorem dX6_figures_129 : decode cX6_figures 129 = .ok (.goto (-103), 3) := by decide +kernel
theorem dX6_figures_132 : decode cX6_figures 132 = .ok (.iload_n 1, 1) := by decide +kernel
theorem dX6_figures_133 : decode cX6_figures 133 = .ok (.iconst (-1), 1) := by decide +kernel
theorem dX6_figures_134 : decode cX6_figures 134 = .ok (.if_icmp .ne 7, 3) := by decide +kernel
theorem dX6_figures_137 : decode cX6_figures 137 = .ok (.iconst (-1), 1) := by decide +kernel
theorem dX6_figures_138 : decode cX6_figures 138 = .ok (.goto 5, 3) := by decide +kernel
theorem dX6_figures_141 : decode cX6_figures 141 = .ok (.iload 5, 2) := by decide +kernel
theorem dX6_figures_143 : decode cX6_figures 143 = .ok (.ireturn, 1) := by decide +kernel
theorem dX6_done_0 : decode cX6_done 0 = .ok (.aload_n 0, 1) := by decide +kernel
theorem dX6_done_1 : decode cX6_done 1 = .ok (.dup, 1) := by decide +kernel
theorem dX6_done_2 : decode cX6_done 2 = .ok (.getfield 127, 3) := by decide +kernel
theorem dX6_done_5 : decode cX6_done 5 = .ok (.iload_n 1, 1) := by decide +kernel
theorem dX6_done_6 : decode cX6_done 6 = .ok (.ifCond .eq 7, 3) := by decide +kernel
theorem dX6_done_9 : decode cX6_done 9 = .ok (.iconst 0, 1) := by decide +kernel
theorem dX6_done_10 : decode cX6_done 10 = .ok (.goto 4, 3) := by decide +kernel
theorem dX6_done_13 : decode cX6_done 13 = .ok (.iconst 1, 1) := by decide +kernel
theorem dX6_done_14 : decode cX6_done 14 = .ok (.iadd, 1) := by decide +kernel
theorem dX6_done_15 : decode cX6_done 15 = .ok (.putfield 127, 3) := by decide +kernel
theorem dX6_done_18 : decode cX6_done 18 = .ok (.iconst 1, 1) := by decide +kernel
theorem dX6_done_19 : decode cX6_done 19 = .ok (.ireturn, 1) := by decide +kernel
theorem dX6_readCommand_0 : decode cX6_readCommand 0 = .ok (.aload_n 0, 1) := by decide +kernel
theorem dX6_readCommand_1 : decode cX6_readCommand 1 = .ok (.getfield 7, 3) := by decide +kernel
theorem dX6_readCommand_4 : decode cX6_readCommand 4 = .ok (.aload_n 0, 1) := by decide +kernel
theorem dX6_readCommand_5 : decode cX6_readCommand 5 = .ok (.getfield 124, 3) := by decide +kernel
theorem dX6_readCommand_8 : decode cX6_readCommand 8 = .ok (.iaload, 1) := by decide +kernel
theorem dX6_readCommand_9 : decode cX6_readCommand 9 = .ok (.istore_n 2, 1) := by decide +kernel
theorem dX6_readCommand_10 : decode cX6_readCommand 10 = .ok (.aload_n 0, 1) := by decide +kernel
theorem dX6_readCommand_11 : decode cX6_readCommand 11 = .ok (.dup, 1) := by decide +kernel
theorem dX6_readCommand_12 : decode cX6_readCommand 12 = .ok (.getfield 124, 3) := by decide +kernel
theorem dX6_readCommand_15 : decode cX6_readCommand 15 = .ok (.iconst 1, 1) := by decide +kernel
theorem dX6_readCommand_16 : decode cX6_readCommand 16 = .ok (.iadd, 1) := by decide +kernel
theorem dX6_readCommand_17 : decode cX6_readCommand 17 = .ok (.putfield 124, 3) := by decide +kernel
theorem dX6_readCommand_20 : decode cX6_readCommand 20 = .ok (.iload_n 2, 1) := by decide +kernel
theorem dX6_readCommand_21 : decode cX6_readCommand 21 = .ok (.lookupswitch 370 #[(102, 280), (104, 210), (112, 124), (116, 329), (119, 51)], 51) := by decide +kernel
theorem dX6_readCommand_72 : decode cX6_readCommand 72 = .ok (.aload_n 0, 1) := by decide +kernel
theorem dX6_readCommand_73 : decode cX6_readCommand 73 = .ok (.iconst 0, 1) := by decide +kernel
theorem dX6_readCommand_74 : decode cX6_readCommand 74 = .ok (.iconst 1, 1) := by decide +kernel
theorem dX6_readCommand_75 : decode cX6_readCommand 75 = .ok (.iconst 0, 1) := by decide +kernel
theorem dX6_readCommand_76 : decode cX6_readCommand 76 = .ok (.iconst 3, 1) := by decide +kernel
theorem dX6_readCommand_77 : decode cX6_readCommand 77 = .ok (.invokevirtual 130, 3) := by decide +kernel
theorem dX6_readCommand_80 : decode cX6_readCommand 80 = .ok (.istore_n 3, 1) := by decide +kernel
theorem dX6_readCommand_81 : decode cX6_readCommand 81 = .ok (.aload_n 0, 1) := by decide +kernel
theorem dX6_readCommand_82 : decode cX6_readCommand 82 = .ok (.iload_n 3, 1) := by decide +kernel
theorem dX6_readCommand_83 : decode cX6_readCommand 83 = .ok (.iconst 3, 1) := by decide +kernel
theorem dX6_readCommand_84 : decode cX6_readCommand 84 = .ok (.iconst 1, 1) := by decide +kernel
theorem dX6_readCommand_85 : decode cX6_readCommand 85 = .ok (.sipush 500, 3) := by decide +kernel
theorem dX6_readCommand_88 : decode cX6_readCommand 88 = .ok (.invokevirtual 130, 3) := by decide +kernel
theorem dX6_readCommand_91 : decode cX6_readCommand 91 = .ok (.istore 4, 2) := by decide +kernel
theorem dX6_readCommand_93 : decode cX6_readCommand 93 = .ok (.iload 4, 2) := by decide +kernel
theorem dX6_readCommand_95 : decode cX6_readCommand 95 = .ok (.iconst (-1), 1) := by decide +kernel
theorem dX6_readCommand_96 : decode cX6_readCommand 96 = .ok (.if_icmp .eq 47, 3) := by decide +kernel
theorem dX6_readCommand_99 : decode cX6_readCommand 99 = .ok (.aload_n 0, 1) := by decide +kernel
theorem dX6_readCommand_100 : decode cX6_readCommand 100 = .ok (.aload_n 1, 1) := by decide +kernel
theorem dX6_readCommand_101 : decode cX6_readCommand 101 = .ok (.iload_n 3, 1) := by decide +kernel
theorem dX6_readCommand_102 : decode cX6_readCommand 102 = .ok (.invokestatic 134, 3) := by decide +kernel
theorem dX6_readCommand_105 : decode cX6_readCommand 105 = .ok (.ifCond .eq 27, 3) := by decide +kernel
theorem dX6_readCommand_108 : decode cX6_readCommand 108 = .ok (.aload_n 1, 1) := by decide +kernel
theorem dX6_readCommand_109 : decode cX6_readCommand 109 = .ok (.iload_n 3, 1) := by decide +kernel
theorem dX6_readCommand_110 : decode cX6_readCommand 110 = .ok (.iload 4, 2) := by decide +kernel
theorem dX6_readCommand_112 : decode cX6_readCommand 112 = .ok (.invokestatic 82, 3) := by decide +kernel
theorem dX6_readCommand_115 : decode cX6_readCommand 115 = .ok (.ifCond .eq 17, 3) := by decide +kernel
theorem dX6_readCommand_118 : decode cX6_readCommand 118 = .ok (.aload_n 1, 1) := by decide +kernel
theorem dX6_readCommand_119 : decode cX6_readCommand 119 = .ok (.iload_n 3, 1) := by decide +kernel
theorem dX6_readCommand_120 : decode cX6_readCommand 120 = .ok (.iload 4, 2) := by decide +kernel
theorem dX6_readCommand_122 : decode cX6_readCommand 122 = .ok (.invokestatic 86, 3) := by decide +kernel
theorem dX6_readCommand_125 : decode cX6_readCommand 125 = .ok (.ifCond .lt 7, 3) := by decide +kernel
theorem dX6_readCommand_128 : decode cX6_readCommand 128 = .ok (.iconst 1, 1) := by decide +kernel
theorem dX6_readCommand_129 : decode cX6_readCommand 129 = .ok (.goto 4, 3) := by decide +kernel
theorem dX6_readCommand_132 : decode cX6_readCommand 132 = .ok (.iconst 0, 1) := by decide +kernel
theorem dX6_readCommand_133 : decode cX6_readCommand 133 = .ok (.invokevirtual 137, 3) := by decide +kernel
theorem dX6_readCommand_136 : decode cX6_readCommand 136 = .ok (.ifCond .eq 7, 3) := by decide +kernel
theorem dX6_readCommand_139 : decode cX6_readCommand 139 = .ok (.iconst 1, 1) := by decide +kernel
theorem dX6_readCommand_140 : decode cX6_readCommand 140 = .ok (.goto 4, 3) := by decide +kernel
theorem dX6_readCommand_143 : decode cX6_readCommand 143 = .ok (.iconst 0, 1) := by decide +kernel
theorem dX6_readCommand_144 : decode cX6_readCommand 144 = .ok (.ireturn, 1) := by decide +kernel
theorem dX6_readCommand_145 : decode cX6_readCommand 145 = .ok (.aload_n 0, 1) := by decide +kernel
theorem dX6_readCommand_146 : decode cX6_readCommand 146 = .ok (.iconst 0, 1) := by decide +kernel
theorem dX6_readCommand_147 : decode cX6_readCommand 147 = .ok (.iconst 2, 1) := by decide +kernel
theorem dX6_readCommand_148 : decode cX6_readCommand 148 = .ok (.iconst 1, 1) := by decide +kernel
theorem dX6_readCommand_149 : decode cX6_readCommand 149 = .ok (.bipush 99, 2) := by decide +kernel
theorem dX6_readCommand_151 : decode cX6_readCommand 151 = .ok (.invokevirtual 130, 3) := by decide +kernel
theorem dX6_readCommand_154 : decode cX6_readCommand 154 = .ok (.istore_n 3, 1) := by decide +kernel
theorem dX6_readCommand_155 : decode cX6_readCommand 155 = .ok (.aload_n 0, 1) := by decide +kernel
theorem dX6_readCommand_156 : decode cX6_readCommand 156 = .ok (.iload_n 3, 1) := by decide +kernel
theorem dX6_readCommand_157 : decode cX6_readCommand 157 = .ok (.iconst 1, 1) := by decide +kernel
theorem dX6_readCommand_158 : decode cX6_readCommand 158 = .ok (.iconst 0, 1) := by decide +kernel
theorem dX6_readCommand_159 : decode cX6_readCommand 159 = .ok (.iconst 3, 1) := by decide +kernel
theorem dX6_readCommand_160 : decode cX6_readCommand 160 = .ok (.invokevirtual 130, 3) := by decide +kernel
theorem dX6_readCommand_163 : decode cX6_readCommand 163 = .ok (.istore 4, 2) := by decide +kernel
theorem dX6_readCommand_165 : decode cX6_readCommand 165 = .ok (.aload_n 0, 1) := by decide +kernel
theorem dX6_readCommand_166 : decode cX6_readCommand 166 = .ok (.iload 4, 2) := by decide +kernel
theorem dX6_readCommand_168 : decode cX6_readCommand 168 = .ok (.iconst 3, 1) := by decide +kernel
theorem dX6_readCommand_169 : decode cX6_readCommand 169 = .ok (.iconst 1, 1) := by decide +kernel
theorem dX6_readCommand_170 : decode cX6_readCommand 170 = .ok (.sipush 500, 3) := by decide +kernel
theorem dX6_readCommand_173 : decode cX6_readCommand 173 = .ok (.invokevirtual 130, 3) := by decide +kernel
theorem dX6_readCommand_176 : decode cX6_readCommand 176 = .ok (.istore 5, 2) := by decide +kernel
theorem dX6_readCommand_178 : decode cX6_readCommand 178 = .ok (.iload 5, 2) := by decide +kernel
theorem dX6_readCommand_180 : decode cX6_readCommand 180 = .ok (.iconst (-1), 1) := by decide +kernel
theorem dX6_readCommand_181 : decode cX6_readCommand 181 = .ok (.if_icmp .eq 48, 3) := by decide +kernel
theorem dX6_readCommand_184 : decode cX6_readCommand 184 = .ok (.aload_n 0, 1) := by decide +kernel
theorem dX6_readCommand_185 : decode cX6_readCommand 185 = .ok (.aload_n 1, 1) := by decide +kernel
theorem dX6_readCommand_186 : decode cX6_readCommand 186 = .ok (.iload 4, 2) := by decide +kernel
theorem dX6_readCommand_188 : decode cX6_readCommand 188 = .ok (.invokestatic 134, 3) := by decide +kernel
theorem dX6_readCommand_191 : decode cX6_readCommand 191 = .ok (.ifCond .eq 27, 3) := by decide +kernel
theorem dX6_readCommand_194 : decode cX6_readCommand 194 = .ok (.aload_n 1, 1) := by decide +kernel
theorem dX6_readCommand_195 : decode cX6_readCommand 195 = .ok (.iconst 2, 1) := by decide +kernel
theorem dX6_readCommand_196 : decode cX6_readCommand 196 = .ok (.iaload, 1) := by decide +kernel
theorem dX6_readCommand_197 : decode cX6_readCommand 197 = .ok (.bipush 8, 2) := by decide +kernel
theorem dX6_readCommand_199 : decode cX6_readCommand 199 = .ok (.if_icmp .ge 19, 3) := by decide +kernel
theorem dX6_readCommand_202 : decode cX6_readCommand 202 = .ok (.aload_n 1, 1) := by decide +kernel
theorem dX6_readCommand_203 : decode cX6_readCommand 203 = .ok (.iload_n 3, 1) := by decide +kernel
theorem dX6_readCommand_204 : decode cX6_readCommand 204 = .ok (.iload 4, 2) := by decide +kernel
theorem dX6_readCommand_206 : decode cX6_readCommand 206 = .ok (.iload 5, 2) := by decide +kernel
theorem dX6_readCommand_208 : decode cX6_readCommand 208 = .ok (.invokestatic 141, 3) := by decide +kernel
theorem dX6_readCommand_211 : decode cX6_readCommand 211 = .ok (.ifCond .le 7, 3) := by decide +kernel
theorem dX6_readCommand_214 : decode cX6_readCommand 214 = .ok (.iconst 1, 1) := by decide +kernel
theorem dX6_readCommand_215 : decode cX6_readCommand 215 = .ok (.goto 4, 3) := by decide +kernel
theorem dX6_readCommand_218 : decode cX6_readCommand 218 = .ok (.iconst 0, 1) := by decide +kernel
theorem dX6_readCommand_219 : decode cX6_readCommand 219 = .ok (.invokevirtual 137, 3) := by decide +kernel
theorem dX6_readCommand_222 : decode cX6_readCommand 222 = .ok (.ifCond .eq 7, 3) := by decide +kernel
theorem dX6_readCommand_225 : decode cX6_readCommand 225 = .ok (.iconst 1, 1) := by decide +kernel
theorem dX6_readCommand_226 : decode cX6_readCommand 226 = .ok (.goto 4, 3) := by decide +kernel
theorem dX6_readCommand_229 : decode cX6_readCommand 229 = .ok (.iconst 0, 1) := by decide +kernel
theorem dX6_readCommand_230 : decode cX6_readCommand 230 = .ok (.ireturn, 1) := by decide +kernel
theorem dX6_readCommand_231 : decode cX6_readCommand 231 = .ok (.aload_n 0, 1) := by decide +kernel
theorem dX6_readCommand_232 : decode cX6_readCommand 232 = .ok (.iconst 0, 1) := by decide +kernel
theorem dX6_readCommand_233 : decode cX6_readCommand 233 = .ok (.iconst 1, 1) := by decide +kernel
theorem dX6_readCommand_234 : decode cX6_readCommand 234 = .ok (.iconst 0, 1) := by decide +kernel
theorem dX6_readCommand_235 : decode cX6_readCommand 235 = .ok (.iconst 3, 1) := by decide +kernel
theorem dX6_readCommand_236 : decode cX6_readCommand 236 = .ok (.invokevirtual 130, 3) := by decide +kernel
theorem dX6_readCommand_239 : decode cX6_readCommand 239 = .ok (.istore_n 3, 1) := by decide +kernel
theorem dX6_readCommand_240 : decode cX6_readCommand 240 = .ok (.aload_n 0, 1) := by decide +kernel
theorem dX6_readCommand_241 : decode cX6_readCommand 241 = .ok (.iload_n 3, 1) := by decide +kernel
theorem dX6_readCommand_242 : decode cX6_readCommand 242 = .ok (.iconst 1, 1) := by decide +kernel
theorem dX6_readCommand_243 : decode cX6_readCommand 243 = .ok (.iconst 0, 1) := by decide +kernel
theorem dX6_readCommand_244 : decode cX6_readCommand 244 = .ok (.iconst 1, 1) := by decide +kernel
theorem dX6_readCommand_245 : decode cX6_readCommand 245 = .ok (.invokevirtual 130, 3) := by decide +kernel
theorem dX6_readCommand_248 : decode cX6_readCommand 248 = .ok (.istore 4, 2) := by decide +kernel
theorem dX6_readCommand_250 : decode cX6_readCommand 250 = .ok (.iload 4, 2) := by decide +kernel
theorem dX6_readCommand_252 : decode cX6_readCommand 252 = .ok (.iconst (-1), 1) := by decide +kernel
theorem dX6_readCommand_253 : decode cX6_readCommand 253 = .ok (.if_icmp .eq 46, 3) := by decide +kernel
theorem dX6_readCommand_256 : decode cX6_readCommand 256 = .ok (.aload_n 0, 1) := by decide +kernel
theorem dX6_readCommand_257 : decode cX6_readCommand 257 = .ok (.aload_n 1, 1) := by decide +kernel
theorem dX6_readCommand_258 : decode cX6_readCommand 258 = .ok (.iload_n 3, 1) := by decide +kernel
theorem dX6_readCommand_259 : decode cX6_readCommand 259 = .ok (.invokestatic 134, 3) := by decide +kernel
theorem dX6_readCommand_262 : decode cX6_readCommand 262 = .ok (.ifCond .eq 26, 3) := by decide +kernel
theorem dX6_readCommand_265 : decode cX6_readCommand 265 = .ok (.aload_n 1, 1) := by decide +kernel
theorem dX6_readCommand_266 : decode cX6_readCommand 266 = .ok (.iload_n 3, 1) := by decide +kernel
theorem dX6_readCommand_267 : decode cX6_readCommand 267 = .ok (.iload 4, 2) := by decide +kernel
theorem dX6_readCommand_269 : decode cX6_readCommand 269 = .ok (.iconst 1, 1) := by decide +kernel
theorem dX6_readCommand_270 : decode cX6_readCommand 270 = .ok (.if_icmp .ne 7, 3) := by decide +kernel
theorem dX6_readCommand_273 : decode cX6_readCommand 273 = .ok (.iconst 1, 1) := by decide +kernel
theorem dX6_readCommand_274 : decode cX6_readCommand 274 = .ok (.goto 4, 3) := by decide +kernel
theorem dX6_readCommand_277 : decode cX6_readCommand 277 = .ok (.iconst 0, 1) := by decide +kernel
theorem dX6_readCommand_278 : decode cX6_readCommand 278 = .ok (.invokestatic 145, 3) := by decide +kernel
theorem dX6_readCommand_281 : decode cX6_readCommand 281 = .ok (.ifCond .lt 7, 3) := by decide +kernel
theorem dX6_readCommand_284 : decode cX6_readCommand 284 = .ok (.iconst 1, 1) := by decide +kernel
theorem dX6_readCommand_285 : decode cX6_readCommand 285 = .ok (.goto 4, 3) := by decide +kernel
theorem dX6_readCommand_288 : decode cX6_readCommand 288 = .ok (.iconst 0, 1) := by decide +kernel
theorem dX6_readCommand_289 : decode cX6_readCommand 289 = .ok (.invokevirtual 137, 3) := by decide +kernel
theorem dX6_readCommand_292 : decode cX6_readCommand 292 = .ok (.ifCond .eq 7, 3) := by decide +kernel
theorem dX6_readCommand_295 : decode cX6_readCommand 295 = .ok (.iconst 1, 1) := by decide +kernel
theorem dX6_readCommand_296 : decode cX6_readCommand 296 = .ok (.goto 4, 3) := by decide +kernel
theorem dX6_readCommand_299 : decode cX6_readCommand 299 = .ok (.iconst 0, 1) := by decide +kernel
theorem dX6_readCommand_300 : decode cX6_readCommand 300 = .ok (.ireturn, 1) := by decide +kernel
theorem dX6_readCommand_301 : decode cX6_readCommand 301 = .ok (.aload_n 0, 1) := by decide +kernel
theorem dX6_readCommand_302 : decode cX6_readCommand 302 = .ok (.iconst 0, 1) := by decide +kernel
theorem dX6_readCommand_303 : decode cX6_readCommand 303 = .ok (.iconst 1, 1) := by decide +kernel
theorem dX6_readCommand_304 : decode cX6_readCommand 304 = .ok (.iconst 0, 1) := by decide +kernel
theorem dX6_readCommand_305 : decode cX6_readCommand 305 = .ok (.iconst 3, 1) := by decide +kernel
theorem dX6_readCommand_306 : decode cX6_readCommand 306 = .ok (.invokevirtual 130, 3) := by decide +kernel
theorem dX6_readCommand_309 : decode cX6_readCommand 309 = .ok (.istore_n 3, 1) := by decide +kernel
theorem dX6_readCommand_310 : decode cX6_readCommand 310 = .ok (.iload_n 3, 1) := by decide +kernel
theorem dX6_readCommand_311 : decode cX6_readCommand 311 = .ok (.iconst (-1), 1) := by decide +kernel
theorem dX6_readCommand_312 : decode cX6_readCommand 312 = .ok (.if_icmp .eq 36, 3) := by decide +kernel
theorem dX6_readCommand_315 : decode cX6_readCommand 315 = .ok (.aload_n 0, 1) := by decide +kernel
theorem dX6_readCommand_316 : decode cX6_readCommand 316 = .ok (.aload_n 1, 1) := by decide +kernel
theorem dX6_readCommand_317 : decode cX6_readCommand 317 = .ok (.iload_n 3, 1) := by decide +kernel
theorem dX6_readCommand_318 : decode cX6_readCommand 318 = .ok (.invokestatic 134, 3) := by decide +kernel
theorem dX6_readCommand_321 : decode cX6_readCommand 321 = .ok (.ifCond .eq 16, 3) := by decide +kernel
theorem dX6_readCommand_324 : decode cX6_readCommand 324 = .ok (.aload_n 1, 1) := by decide +kernel
theorem dX6_readCommand_325 : decode cX6_readCommand 325 = .ok (.iload_n 3, 1) := by decide +kernel
theorem dX6_readCommand_326 : decode cX6_readCommand 326 = .ok (.iconst 0, 1) := by decide +kernel
theorem dX6_readCommand_327 : decode cX6_readCommand 327 = .ok (.invokestatic 62, 3) := by decide +kernel
theorem dX6_readCommand_330 : decode cX6_readCommand 330 = .ok (.ifCond .lt 7, 3) := by decide +kernel
theorem dX6_readCommand_333 : decode cX6_readCommand 333 = .ok (.iconst 1, 1) := by decide +kernel
theorem dX6_readCommand_334 : decode cX6_readCommand 334 = .ok (.goto 4, 3) := by decide +kernel
theorem dX6_readCommand_337 : decode cX6_readCommand 337 = .ok (.iconst 0, 1) := by decide +kernel
theorem dX6_readCommand_338 : decode cX6_readCommand 338 = .ok (.invokevirtual 137, 3) := by decide +kernel
theorem dX6_readCommand_341 : decode cX6_readCommand 341 = .ok (.ifCond .eq 7, 3) := by decide +kernel
theorem dX6_readCommand_344 : decode cX6_readCommand 344 = .ok (.iconst 1, 1) := by decide +kernel
theorem dX6_readCommand_345 : decode cX6_readCommand 345 = .ok (.goto 4, 3) := by decide +kernel
theorem dX6_readCommand_348 : decode cX6_readCommand 348 = .ok (.iconst 0, 1) := by decide +kernel
theorem dX6_readCommand_349 : decode cX6_readCommand 349 = .ok (.ireturn, 1) := by decide +kernel
theorem dX6_readCommand_350 : decode cX6_readCommand 350 = .ok (.aload_n 0, 1) := by decide +kernel
theorem dX6_readCommand_351 : decode cX6_readCommand 351 = .ok (.iconst 0, 1) := by decide +kernel
theorem dX6_readCommand_352 : decode cX6_readCommand 352 = .ok (.iconst 2, 1) := by decide +kernel
theorem dX6_readCommand_353 : decode cX6_readCommand 353 = .ok (.iconst 1, 1) := by decide +kernel
theorem dX6_readCommand_354 : decode cX6_readCommand 354 = .ok (.bipush 99, 2) := by decide +kernel
theorem dX6_readCommand_356 : decode cX6_readCommand 356 = .ok (.invokevirtual 130, 3) := by decide +kernel
theorem dX6_readCommand_359 : decode cX6_readCommand 359 = .ok (.istore_n 3, 1) := by decide +kernel
theorem dX6_readCommand_360 : decode cX6_readCommand 360 = .ok (.iload_n 3, 1) := by decide +kernel
theorem dX6_readCommand_361 : decode cX6_readCommand 361 = .ok (.iconst (-1), 1) := by decide +kernel
theorem dX6_readCommand_362 : decode cX6_readCommand 362 = .ok (.if_icmp .eq 27, 3) := by decide +kernel
theorem dX6_readCommand_365 : decode cX6_readCommand 365 = .ok (.aload_n 0, 1) := by decide +kernel
theorem dX6_readCommand_366 : decode cX6_readCommand 366 = .ok (.aload_n 1, 1) := by decide +kernel
theorem dX6_readCommand_367 : decode cX6_readCommand 367 = .ok (.iload_n 3, 1) := by decide +kernel
theorem dX6_readCommand_368 : decode cX6_readCommand 368 = .ok (.invokestatic 148, 3) := by decide +kernel
theorem dX6_readCommand_371 : decode cX6_readCommand 371 = .ok (.ifCond .lt 7, 3) := by decide +kernel
theorem dX6_readCommand_374 : decode cX6_readCommand 374 = .ok (.iconst 1, 1) := by decide +kernel
theorem dX6_readCommand_375 : decode cX6_readCommand 375 = .ok (.goto 4, 3) := by decide +kernel
theorem dX6_readCommand_378 : decode cX6_readCommand 378 = .ok (.iconst 0, 1) := by decide +kernel
theorem dX6_readCommand_379 : decode cX6_readCommand 379 = .ok (.invokevirtual 137, 3) := by decide +kernel
theorem dX6_readCommand_382 : decode cX6_readCommand 382 = .ok (.ifCond .eq 7, 3) := by decide +kernel
theorem dX6_readCommand_385 : decode cX6_readCommand 385 = .ok (.iconst 1, 1) := by decide +kernel
theorem dX6_readCommand_386 : decode cX6_readCommand 386 = .ok (.goto 4, 3) := by decide +kernel
theorem dX6_readCommand_389 : decode cX6_readCommand 389 = .ok (.iconst 0, 1) := by decide +kernel
theorem dX6_readCommand_390 : decode cX6_readCommand 390 = .ok (.ireturn, 1) := by decide +kernel
theorem dX6_readCommand_391 : decode cX6_readCommand 391 = .ok (.aload_n 0, 1) := by decide +kernel
theorem dX6_readCommand_392 : decode cX6_readCommand 392 = .ok (.dup, 1) := by decide +kernel
theorem dX6_readCommand_393 : decode cX6_readCommand 393 = .ok (.getfield 124, 3) := by decide +kernel
theorem dX6_readCommand_396 : decode cX6_readCommand 396 = .ok (.iconst 1, 1) := by decide +kernel
theorem dX6_readCommand_397 : decode cX6_readCommand 397 = .ok (.isub, 1) := by decide +kernel
theorem dX6_readCommand_398 : decode cX6_readCommand 398 = .ok (.putfield 124, 3) := by decide +kernel
theorem dX6_readCommand_401 : decode cX6_readCommand 401 = .ok (.iconst 0, 1) := by decide +kernel
theorem dX6_readCommand_402 : decode cX6_readCommand 402 = .ok (.ireturn, 1) := by decide +kernel
theorem dX6_readText_0 : decode cX6_readText 0 = .ok (.aload_n 0, 1) := by decide +kernel
theorem dX6_readText_1 : decode cX6_readText 1 = .ok (.iconst 0, 1) := by decide +kernel
theorem dX6_readText_2 : decode cX6_readText 2 = .ok (.putfield 127, 3) := by decide +kernel
theorem dX6_readText_5 : decode cX6_readText 5 = .ok (.aload_n 0, 1) := by decide +kernel
theorem dX6_readText_6 : decode cX6_readText 6 = .ok (.iconst 0, 1) := by decide +kernel
theorem dX6_readText_7 : decode cX6_readText 7 = .ok (.putfield 124, 3) := by decide +kernel
theorem dX6_readText_10 : decode cX6_readText 10 = .ok (.aload_n 0, 1) := by decide +kernel
theorem dX6_readText_11 : decode cX6_readText 11 = .ok (.getfield 117, 3) := by decide +kernel
theorem dX6_readText_14 : decode cX6_readText 14 = .ok (.ifCond .eq 14, 3) := by decide +kernel
theorem dX6_readText_17 : decode cX6_readText 17 = .ok (.aload_n 0, 1) := by decide +kernel
theorem dX6_readText_18 : decode cX6_readText 18 = .ok (.getfield 7, 3) := by decide +kernel
theorem dX6_readText_21 : decode cX6_readText 21 = .ok (.iconst 0, 1) := by decide +kernel
theorem dX6_readText_22 : decode cX6_readText 22 = .ok (.iaload, 1) := by decide +kernel
theorem dX6_readText_23 : decode cX6_readText 23 = .ok (.bipush 78, 2) := by decide +kernel
theorem dX6_readText_25 : decode cX6_readText 25 = .ok (.if_icmp .eq 5, 3) := by decide +kernel
theorem dX6_readText_28 : decode cX6_readText 28 = .ok (.iconst 0, 1) := by decide +kernel
theorem dX6_readText_29 : decode cX6_readText 29 = .ok (.ireturn, 1) := by decide +kernel
theorem dX6_readText_30 : decode cX6_readText 30 = .ok (.aload_n 0, 1) := by decide +kernel
theorem dX6_readText_31 : decode cX6_readText 31 = .ok (.iconst 1, 1) := by decide +kernel
theorem dX6_readText_32 : decode cX6_readText 32 = .ok (.putfield 124, 3) := by decide +kernel
theorem dX6_readText_35 : decode cX6_readText 35 = .ok (.aload_n 0, 1) := by decide +kernel
theorem dX6_readText_36 : decode cX6_readText 36 = .ok (.iconst 0, 1) := by decide +kernel
theorem dX6_readText_37 : decode cX6_readText 37 = .ok (.iconst 1, 1) := by decide +kernel
theorem dX6_readText_38 : decode cX6_readText 38 = .ok (.iconst 1, 1) := by decide +kernel
theorem dX6_readText_39 : decode cX6_readText 39 = .ok (.iconst 4, 1) := by decide +kernel
theorem dX6_readText_40 : decode cX6_readText 40 = .ok (.invokevirtual 130, 3) := by decide +kernel
theorem dX6_readText_43 : decode cX6_readText 43 = .ok (.istore_n 2, 1) := by decide +kernel
theorem dX6_readText_44 : decode cX6_readText 44 = .ok (.iload_n 2, 1) := by decide +kernel
theorem dX6_readText_45 : decode cX6_readText 45 = .ok (.iconst (-1), 1) := by decide +kernel
theorem dX6_readText_46 : decode cX6_readText 46 = .ok (.if_icmp .ne 8, 3) := by decide +kernel
theorem dX6_readText_49 : decode cX6_readText 49 = .ok (.aload_n 0, 1) := by decide +kernel
theorem dX6_readText_50 : decode cX6_readText 50 = .ok (.getfield 124, 3) := by decide +kernel
theorem dX6_readText_53 : decode cX6_readText 53 = .ok (.ireturn, 1) := by decide +kernel
theorem dX6_readText_54 : decode cX6_readText 54 = .ok (.aload_n 1, 1) := by decide +kernel
theorem dX6_readText_55 : decode cX6_readText 55 = .ok (.iload_n 2, 1) := by decide +kernel
theorem dX6_readText_56 : decode cX6_readText 56 = .ok (.invokestatic 32, 3) := by decide +kernel
theorem dX6_readText_59 : decode cX6_readText 59 = .ok (.aload_n 1, 1) := by decide +kernel
theorem dX6_readText_60 : decode cX6_readText 60 = .ok (.invokestatic 36, 3) := by decide +kernel
theorem dX6_readText_63 : decode cX6_readText 63 = .ok (.aload_n 0, 1) := by decide +kernel
theorem dX6_readText_64 : decode cX6_readText 64 = .ok (.getfield 124, 3) := by decide +kernel
theorem dX6_readText_67 : decode cX6_readText 67 = .ok (.aload_n 0, 1) := by decide +kernel
theorem dX6_readText_68 : decode cX6_readText 68 = .ok (.getfield 117, 3) := by decide +kernel
theorem dX6_readText_71 : decode cX6_readText 71 = .ok (.if_icmp .ge 16, 3) := by decide +kernel
theorem dX6_readText_74 : decode cX6_readText 74 = .ok (.aload_n 0, 1) := by decide +kernel
theorem dX6_readText_75 : decode cX6_readText 75 = .ok (.aload_n 1, 1) := by decide +kernel
theorem dX6_readText_76 : decode cX6_readText 76 = .ok (.invokevirtual 151, 3) := by decide +kernel
theorem dX6_readText_79 : decode cX6_readText 79 = .ok (.ifCond .ne (-16), 3) := by decide +kernel
theorem dX6_readText_82 : decode cX6_readText 82 = .ok (.aload_n 0, 1) := by decide +kernel
theorem dX6_readText_83 : decode cX6_readText 83 = .ok (.getfield 124, 3) := by decide +kernel
theorem dX6_readText_86 : decode cX6_readText 86 = .ok (.ireturn, 1) := by decide +kernel
theorem dX6_readText_87 : decode cX6_readText 87 = .ok (.iconst (-1), 1) := by decide +kernel
theorem dX6_readText_88 : decode cX6_readText 88 = .ok (.ireturn, 1) := by decide +kernel
theorem dX6_errorPosition_0 : decode cX6_errorPosition 0 = .ok (.aload_n 0, 1) := by decide +kernel
theorem dX6_errorPosition_1 : decode cX6_errorPosition 1 = .ok (.iconst 0, 1) := by decide +kernel
theorem dX6_errorPosition_2 : decode cX6_errorPosition 2 = .ok (.putfield 40, 3) := by decide +kernel
theorem dX6_errorPosition_5 : decode cX6_errorPosition 5 = .ok (.aload_n 0, 1) := by decide +kernel
theorem dX6_errorPosition_6 : decode cX6_errorPosition 6 = .ok (.aload_n 0, 1) := by decide +kernel
theorem dX6_errorPosition_7 : decode cX6_errorPosition 7 = .ok (.getfield 16, 3) := by decide +kernel
theorem dX6_errorPosition_10 : decode cX6_errorPosition 10 = .ok (.invokevirtual 155, 3) := by decide +kernel
theorem dX6_errorPosition_13 : decode cX6_errorPosition 13 = .ok (.ireturn, 1) := by decide +kernel
theorem dX6_load_0 : decode cX6_load 0 = .ok (.aload_n 0, 1) := by decide +kernel
theorem dX6_load_1 : decode cX6_load 1 = .ok (.aload_n 0, 1) := by decide +kernel
theorem dX6_load_2 : decode cX6_load 2 = .ok (.aload_n 0, 1) := by decide +kernel
theorem dX6_load_3 : decode cX6_load 3 = .ok (.getfield 16, 3) := by decide +kernel
theorem dX6_load_6 : decode cX6_load 6 = .ok (.invokevirtual 155, 3) := by decide +kernel
theorem dX6_load_9 : decode cX6_load 9 = .ok (.iconst (-1), 1) := by decide +kernel
theorem dX6_load_10 : decode cX6_load 10 = .ok (.if_icmp .ne 7, 3) := by decide +kernel
theorem dX6_load_13 : decode cX6_load 13 = .ok (.iconst 0, 1) := by decide +kernel
theorem dX6_load_14 : decode cX6_load 14 = .ok (.goto 4, 3) := by decide +kernel
theorem dX6_load_17 : decode cX6_load 17 = .ok (.iconst 1, 1) := by decide +kernel
theorem dX6_load_18 : decode cX6_load 18 = .ok (.invokevirtual 120, 3) := by decide +kernel
theorem dX6_load_21 : decode cX6_load 21 = .ok (.ifCond .eq 5, 3) := by decide +kernel
theorem dX6_load_24 : decode cX6_load 24 = .ok (.iconst 0, 1) := by decide +kernel
theorem dX6_load_25 : decode cX6_load 25 = .ok (.ireturn, 1) := by decide +kernel
theorem dX6_load_26 : decode cX6_load 26 = .ok (.aload_n 0, 1) := by decide +kernel
theorem dX6_load_27 : decode cX6_load 27 = .ok (.getfield 16, 3) := by decide +kernel
theorem dX6_load_30 : decode cX6_load 30 = .ok (.iconst 0, 1) := by decide +kernel
theorem dX6_load_31 : decode cX6_load 31 = .ok (.aload_n 0, 1) := by decide +kernel
theorem dX6_load_32 : decode cX6_load 32 = .ok (.getfield 13, 3) := by decide +kernel
theorem dX6_load_35 : decode cX6_load 35 = .ok (.iconst 0, 1) := by decide +kernel
theorem dX6_load_36 : decode cX6_load 36 = .ok (.invokestatic 159, 3) := by decide +kernel
theorem dX6_load_39 : decode cX6_load 39 = .ok (.aload_n 0, 1) := by decide +kernel
theorem dX6_load_40 : decode cX6_load 40 = .ok (.iconst 0, 1) := by decide +kernel
theorem dX6_load_41 : decode cX6_load 41 = .ok (.putfield 163, 3) := by decide +kernel
theorem dX6_load_44 : decode cX6_load 44 = .ok (.aload_n 0, 1) := by decide +kernel
theorem dX6_load_45 : decode cX6_load 45 = .ok (.getfield 28, 3) := by decide +kernel
theorem dX6_load_48 : decode cX6_load 48 = .ok (.iconst 0, 1) := by decide +kernel
theorem dX6_load_49 : decode cX6_load 49 = .ok (.iconst 0, 1) := by decide +kernel
theorem dX6_load_50 : decode cX6_load 50 = .ok (.bastore, 1) := by decide +kernel
theorem dX6_load_51 : decode cX6_load 51 = .ok (.aload_n 0, 1) := by decide +kernel
theorem dX6_load_52 : decode cX6_load 52 = .ok (.getfield 28, 3) := by decide +kernel
theorem dX6_load_55 : decode cX6_load 55 = .ok (.iconst 1, 1) := by decide +kernel
theorem dX6_load_56 : decode cX6_load 56 = .ok (.iconst 0, 1) := by decide +kernel
theorem dX6_load_57 : decode cX6_load 57 = .ok (.bastore, 1) := by decide +kernel
theorem dX6_load_58 : decode cX6_load 58 = .ok (.aload_n 0, 1) := by decide +kernel
theorem dX6_load_59 : decode cX6_load 59 = .ok (.getfield 127, 3) := by decide +kernel
theorem dX6_load_62 : decode cX6_load 62 = .ok (.ireturn, 1) := by decide +kernel
theorem dX6_about_0 : decode cX6_about 0 = .ok (.aload_n 0, 1) := by decide +kernel
theorem dX6_about_1 : decode cX6_about 1 = .ok (.iload_n 1, 1) := by decide +kernel
theorem dX6_about_2 : decode cX6_about 2 = .ok (.i2l, 1) := by decide +kernel
theorem dX6_about_3 : decode cX6_about 3 = .ok (.lconst 0, 1) := by decide +kernel
theorem dX6_about_4 : decode cX6_about 4 = .ok (.ldc2_w 166, 3) := by decide +kernel
theorem dX6_about_7 : decode cX6_about 7 = .ok (.invokestatic 48, 3) := by decide +kernel
theorem dX6_about_10 : decode cX6_about 10 = .ok (.ifCond .eq 7, 3) := by decide +kernel
theorem dX6_about_13 : decode cX6_about 13 = .ok (.iconst 0, 1) := by decide +kernel
theorem dX6_about_14 : decode cX6_about 14 = .ok (.goto 4, 3) := by decide +kernel
theorem dX6_about_17 : decode cX6_about 17 = .ok (.iconst 1, 1) := by decide +kernel
theorem dX6_about_18 : decode cX6_about 18 = .ok (.invokevirtual 120, 3) := by decide +kernel
theorem dX6_about_21 : decode cX6_about 21 = .ok (.ifCond .eq 5, 3) := by decide +kernel
theorem dX6_about_24 : decode cX6_about 24 = .ok (.iconst 0, 1) := by decide +kernel
theorem dX6_about_25 : decode cX6_about 25 = .ok (.ireturn, 1) := by decide +kernel
theorem dX6_about_26 : decode cX6_about 26 = .ok (.iload_n 1, 1) := by decide +kernel
theorem dX6_about_27 : decode cX6_about 27 = .ok (.tableswitch 94 3 8 #[37, 46, 56, 65, 75, 85], 37) := by decide +kernel
theorem dX6_about_64 : decode cX6_about 64 = .ok (.aload_n 0, 1) := by decide +kernel
theorem dX6_about_65 : decode cX6_about 65 = .ok (.getfield 13, 3) := by decide +kernel
theorem dX6_about_68 : decode cX6_about 68 = .ok (.iconst 0, 1) := by decide +kernel
theorem dX6_about_69 : decode cX6_about 69 = .ok (.invokestatic 95, 3) := by decide +kernel
theorem dX6_about_72 : decode cX6_about 72 = .ok (.ireturn, 1) := by decide +kernel
theorem dX6_about_73 : decode cX6_about 73 = .ok (.aload_n 0, 1) := by decide +kernel
theorem dX6_about_74 : decode cX6_about 74 = .ok (.getfield 13, 3) := by decide +kernel
theorem dX6_about_77 : decode cX6_about 77 = .ok (.bipush 6, 2) := by decide +kernel
theorem dX6_about_79 : decode cX6_about 79 = .ok (.invokestatic 95, 3) := by decide +kernel
theorem dX6_about_82 : decode cX6_about 82 = .ok (.ireturn, 1) := by decide +kernel
theorem dX6_about_83 : decode cX6_about 83 = .ok (.aload_n 0, 1) := by decide +kernel
theorem dX6_about_84 : decode cX6_about 84 = .ok (.getfield 13, 3) := by decide +kernel
theorem dX6_about_87 : decode cX6_about 87 = .ok (.iconst 3, 1) := by decide +kernel
theorem dX6_about_88 : decode cX6_about 88 = .ok (.invokestatic 95, 3) := by decide +kernel
theorem dX6_about_91 : decode cX6_about 91 = .ok (.ireturn, 1) := by decide +kernel
theorem dX6_about_92 : decode cX6_about 92 = .ok (.aload_n 0, 1) := by decide +kernel
theorem dX6_about_93 : decode cX6_about 93 = .ok (.getfield 13, 3) := by decide +kernel
theorem dX6_about_96 : decode cX6_about 96 = .ok (.bipush 12, 2) := by decide +kernel
theorem dX6_about_98 : decode cX6_about 98 = .ok (.invokestatic 95, 3) := by decide +kernel
theorem dX6_about_101 : decode cX6_about 101 = .ok (.ireturn, 1) := by decide +kernel
theorem dX6_about_102 : decode cX6_about 102 = .ok (.aload_n 0, 1) := by decide +kernel
theorem dX6_about_103 : decode cX6_about 103 = .ok (.getfield 13, 3) := by decide +kernel
theorem dX6_about_106 : decode cX6_about 106 = .ok (.bipush 8, 2) := by decide +kernel
theorem dX6_about_108 : decode cX6_about 108 = .ok (.invokestatic 95, 3) := by decide +kernel
theorem dX6_about_111 : decode cX6_about 111 = .ok (.ireturn, 1) := by decide +kernel
theorem dX6_about_112 : decode cX6_about 112 = .ok (.aload_n 0, 1) := by decide +kernel
theorem dX6_about_113 : decode cX6_about 113 = .ok (.getfield 13, 3) := by decide +kernel
theorem dX6_about_116 : decode cX6_about 116 = .ok (.iconst 4, 1) := by decide +kernel
theorem dX6_about_117 : decode cX6_about 117 = .ok (.invokestatic 95, 3) := by decide +kernel
theorem dX6_about_120 : decode cX6_about 120 = .ok (.ireturn, 1) := by decide +kernel
theorem dX6_about_121 : decode cX6_about 121 = .ok (.aload_n 0, 1) := by decide +kernel
theorem dX6_about_122 : decode cX6_about 122 = .ok (.getfield 13, 3) := by decide +kernel
theorem dX6_about_125 : decode cX6_about 125 = .ok (.iload_n 1, 1) := by decide +kernel
theorem dX6_about_126 : decode cX6_about 126 = .ok (.iaload, 1) := by decide +kernel
theorem dX6_about_127 : decode cX6_about 127 = .ok (.ireturn, 1) := by decide +kernel
theorem dX6_writer_0 : decode cX6_writer 0 = .ok (.aload_n 0, 1) := by decide +kernel
theorem dX6_writer_1 : decode cX6_writer 1 = .ok (.aload_n 0, 1) := by decide +kernel
theorem dX6_writer_2 : decode cX6_writer 2 = .ok (.getfield 13, 3) := by decide +kernel
theorem dX6_writer_5 : decode cX6_writer 5 = .ok (.iload_n 1, 1) := by decide +kernel
theorem dX6_writer_6 : decode cX6_writer 6 = .ok (.invokestatic 134, 3) := by decide +kernel
theorem dX6_writer_9 : decode cX6_writer 9 = .ok (.ifCond .ne 7, 3) := by decide +kernel
theorem dX6_writer_12 : decode cX6_writer 12 = .ok (.iconst 1, 1) := by decide +kernel
theorem dX6_writer_13 : decode cX6_writer 13 = .ok (.goto 20, 3) := by decide +kernel
theorem dX6_writer_16 : decode cX6_writer 16 = .ok (.iload_n 2, 1) := by decide +kernel
theorem dX6_writer_17 : decode cX6_writer 17 = .ok (.i2l, 1) := by decide +kernel
theorem dX6_writer_18 : decode cX6_writer 18 = .ok (.lconst 0, 1) := by decide +kernel
theorem dX6_writer_19 : decode cX6_writer 19 = .ok (.ldc2_w 109, 3) := by decide +kernel
theorem dX6_writer_22 : decode cX6_writer 22 = .ok (.invokestatic 48, 3) := by decide +kernel
theorem dX6_writer_25 : decode cX6_writer 25 = .ok (.ifCond .eq 7, 3) := by decide +kernel
theorem dX6_writer_28 : decode cX6_writer 28 = .ok (.iconst 0, 1) := by decide +kernel
theorem dX6_writer_29 : decode cX6_writer 29 = .ok (.goto 4, 3) := by decide +kernel
theorem dX6_writer_32 : decode cX6_writer 32 = .ok (.iconst 2, 1) := by decide +kernel
theorem dX6_writer_33 : decode cX6_writer 33 = .ok (.invokevirtual 120, 3) := by decide +kernel
theorem dX6_writer_36 : decode cX6_writer 36 = .ok (.ifCond .eq 5, 3) := by decide +kernel
theorem dX6_writer_39 : decode cX6_writer 39 = .ok (.iconst 0, 1) := by decide +kernel
theorem dX6_writer_40 : decode cX6_writer 40 = .ok (.ireturn, 1) := by decide +kernel
theorem dX6_writer_41 : decode cX6_writer 41 = .ok (.iload_n 2, 1) := by decide +kernel
theorem dX6_writer_42 : decode cX6_writer 42 = .ok (.ifCond .ne 15, 3) := by decide +kernel
theorem dX6_writer_45 : decode cX6_writer 45 = .ok (.aload_n 0, 1) := by decide +kernel
theorem dX6_writer_46 : decode cX6_writer 46 = .ok (.getfield 13, 3) := by decide +kernel
theorem dX6_writer_49 : decode cX6_writer 49 = .ok (.iload_n 1, 1) := by decide +kernel
theorem dX6_writer_50 : decode cX6_writer 50 = .ok (.iconst 0, 1) := by decide +kernel
theorem dX6_writer_51 : decode cX6_writer 51 = .ok (.invokestatic 54, 3) := by decide +kernel
theorem dX6_writer_54 : decode cX6_writer 54 = .ok (.goto 32, 3) := by decide +kernel
theorem dX6_writer_57 : decode cX6_writer 57 = .ok (.iload_n 2, 1) := by decide +kernel
theorem dX6_writer_58 : decode cX6_writer 58 = .ok (.iconst 1, 1) := by decide +kernel
theorem dX6_writer_59 : decode cX6_writer 59 = .ok (.if_icmp .ne 16, 3) := by decide +kernel
theorem dX6_writer_62 : decode cX6_writer 62 = .ok (.aload_n 0, 1) := by decide +kernel
theorem dX6_writer_63 : decode cX6_writer 63 = .ok (.getfield 13, 3) := by decide +kernel
theorem dX6_writer_66 : decode cX6_writer 66 = .ok (.iload_n 1, 1) := by decide +kernel
theorem dX6_writer_67 : decode cX6_writer 67 = .ok (.bipush 6, 2) := by decide +kernel
theorem dX6_writer_69 : decode cX6_writer 69 = .ok (.invokestatic 54, 3) := by decide +kernel
theorem dX6_writer_72 : decode cX6_writer 72 = .ok (.goto 14, 3) := by decide +kernel
theorem dX6_writer_75 : decode cX6_writer 75 = .ok (.aload_n 0, 1) := by decide +kernel
theorem dX6_writer_76 : decode cX6_writer 76 = .ok (.getfield 13, 3) := by decide +kernel
theorem dX6_writer_79 : decode cX6_writer 79 = .ok (.iload_n 1, 1) := by decide +kernel
theorem dX6_writer_80 : decode cX6_writer 80 = .ok (.iload_n 2, 1) := by decide +kernel
theorem dX6_writer_81 : decode cX6_writer 81 = .ok (.iconst 1, 1) := by decide +kernel
theorem dX6_writer_82 : decode cX6_writer 82 = .ok (.isub, 1) := by decide +kernel
theorem dX6_writer_83 : decode cX6_writer 83 = .ok (.invokestatic 54, 3) := by decide +kernel
theorem dX6_writer_86 : decode cX6_writer 86 = .ok (.ireturn, 1) := by decide +kernel
theorem dX6_desk_0 : decode cX6_desk 0 = .ok (.aload_n 0, 1) := by decide +kernel
theorem dX6_desk_1 : decode cX6_desk 1 = .ok (.aload_n 0, 1) := by decide +kernel
theorem dX6_desk_2 : decode cX6_desk 2 = .ok (.getfield 13, 3) := by decide +kernel
theorem dX6_desk_5 : decode cX6_desk 5 = .ok (.iload_n 1, 1) := by decide +kernel
theorem dX6_desk_6 : decode cX6_desk 6 = .ok (.invokestatic 134, 3) := by decide +kernel
theorem dX6_desk_9 : decode cX6_desk 9 = .ok (.ifCond .ne 7, 3) := by decide +kernel
theorem dX6_desk_12 : decode cX6_desk 12 = .ok (.iconst 1, 1) := by decide +kernel
theorem dX6_desk_13 : decode cX6_desk 13 = .ok (.goto 20, 3) := by decide +kernel
theorem dX6_desk_16 : decode cX6_desk 16 = .ok (.iload_n 2, 1) := by decide +kernel
theorem dX6_desk_17 : decode cX6_desk 17 = .ok (.i2l, 1) := by decide +kernel
theorem dX6_desk_18 : decode cX6_desk 18 = .ok (.lconst 0, 1) := by decide +kernel
theorem dX6_desk_19 : decode cX6_desk 19 = .ok (.ldc2_w 168, 3) := by decide +kernel
theorem dX6_desk_22 : decode cX6_desk 22 = .ok (.invokestatic 48, 3) := by decide +kernel
theorem dX6_desk_25 : decode cX6_desk 25 = .ok (.ifCond .eq 7, 3) := by decide +kernel
theorem dX6_desk_28 : decode cX6_desk 28 = .ok (.iconst 0, 1) := by decide +kernel
theorem dX6_desk_29 : decode cX6_desk 29 = .ok (.goto 4, 3) := by decide +kernel
theorem dX6_desk_32 : decode cX6_desk 32 = .ok (.iconst 2, 1) := by decide +kernel
theorem dX6_desk_33 : decode cX6_desk 33 = .ok (.invokevirtual 120, 3) := by decide +kernel
theorem dX6_desk_36 : decode cX6_desk 36 = .ok (.ifCond .eq 5, 3) := by decide +kernel
theorem dX6_desk_39 : decode cX6_desk 39 = .ok (.iconst 0, 1) := by decide +kernel
theorem dX6_desk_40 : decode cX6_desk 40 = .ok (.ireturn, 1) := by decide +kernel
theorem dX6_desk_41 : decode cX6_desk 41 = .ok (.aload_n 0, 1) := by decide +kernel
theorem dX6_desk_42 : decode cX6_desk 42 = .ok (.getfield 13, 3) := by decide +kernel
theorem dX6_desk_45 : decode cX6_desk 45 = .ok (.iload_n 1, 1) := by decide +kernel
theorem dX6_desk_46 : decode cX6_desk 46 = .ok (.bipush 8, 2) := by decide +kernel
theorem dX6_desk_48 : decode cX6_desk 48 = .ok (.iload_n 2, 1) := by decide +kernel
theorem dX6_desk_49 : decode cX6_desk 49 = .ok (.iadd, 1) := by decide +kernel
theorem dX6_desk_50 : decode cX6_desk 50 = .ok (.invokestatic 54, 3) := by decide +kernel
theorem dX6_desk_53 : decode cX6_desk 53 = .ok (.ireturn, 1) := by decide +kernel
theorem dX6_letter_0 : decode cX6_letter 0 = .ok (.aload_n 0, 1) := by decide +kernel
theorem dX6_letter_1 : decode cX6_letter 1 = .ok (.aload_n 0, 1) := by decide +kernel
theorem dX6_letter_2 : decode cX6_letter 2 = .ok (.getfield 13, 3) := by decide +kernel
theorem dX6_letter_5 : decode cX6_letter 5 = .ok (.iload_n 1, 1) := by decide +kernel
theorem dX6_letter_6 : decode cX6_letter 6 = .ok (.invokestatic 134, 3) := by decide +kernel
theorem dX6_letter_9 : decode cX6_letter 9 = .ok (.ifCond .eq 25, 3) := by decide +kernel
theorem dX6_letter_12 : decode cX6_letter 12 = .ok (.iload_n 2, 1) := by decide +kernel
theorem dX6_letter_13 : decode cX6_letter 13 = .ok (.i2l, 1) := by decide +kernel
theorem dX6_letter_14 : decode cX6_letter 14 = .ok (.lconst 0, 1) := by decide +kernel
theorem dX6_letter_15 : decode cX6_letter 15 = .ok (.aload_n 0, 1) := by decide +kernel
theorem dX6_letter_16 : decode cX6_letter 16 = .ok (.getfield 13, 3) := by decide +kernel
theorem dX6_letter_19 : decode cX6_letter 19 = .ok (.iload_n 1, 1) := by decide +kernel
theorem dX6_letter_20 : decode cX6_letter 20 = .ok (.bipush 6, 2) := by decide +kernel
theorem dX6_letter_22 : decode cX6_letter 22 = .ok (.invokestatic 54, 3) := by decide +kernel
theorem dX6_letter_25 : decode cX6_letter 25 = .ok (.iconst 1, 1) := by decide +kernel
theorem dX6_letter_26 : decode cX6_letter 26 = .ok (.isub, 1) := by decide +kernel
theorem dX6_letter_27 : decode cX6_letter 27 = .ok (.i2l, 1) := by decide +kernel
theorem dX6_letter_28 : decode cX6_letter 28 = .ok (.invokestatic 48, 3) := by decide +kernel
theorem dX6_letter_31 : decode cX6_letter 31 = .ok (.ifCond .ne 7, 3) := by decide +kernel
theorem dX6_letter_34 : decode cX6_letter 34 = .ok (.iconst 1, 1) := by decide +kernel
theorem dX6_letter_35 : decode cX6_letter 35 = .ok (.goto 18, 3) := by decide +kernel
theorem dX6_letter_38 : decode cX6_letter 38 = .ok (.iload_n 3, 1) := by decide +kernel
theorem dX6_letter_39 : decode cX6_letter 39 = .ok (.i2l, 1) := by decide +kernel
theorem dX6_letter_40 : decode cX6_letter 40 = .ok (.lconst 0, 1) := by decide +kernel
theorem dX6_letter_41 : decode cX6_letter 41 = .ok (.lconst 1, 1) := by decide +kernel
theorem dX6_letter_42 : decode cX6_letter 42 = .ok (.invokestatic 48, 3) := by decide +kernel
theorem dX6_letter_45 : decode cX6_letter 45 = .ok (.ifCond .eq 7, 3) := by decide +kernel
theorem dX6_letter_48 : decode cX6_letter 48 = .ok (.iconst 0, 1) := by decide +kernel
theorem dX6_letter_49 : decode cX6_letter 49 = .ok (.goto 4, 3) := by decide +kernel
theorem dX6_letter_52 : decode cX6_letter 52 = .ok (.iconst 2, 1) := by decide +kernel
theorem dX6_letter_53 : decode cX6_letter 53 = .ok (.invokevirtual 120, 3) := by decide +kernel
theorem dX6_letter_56 : decode cX6_letter 56 = .ok (.ifCond .eq 5, 3) := by decide +kernel
theorem dX6_letter_59 : decode cX6_letter 59 = .ok (.iconst 0, 1) := by decide +kernel
theorem dX6_letter_60 : decode cX6_letter 60 = .ok (.ireturn, 1) := by decide +kernel
theorem dX6_letter_61 : decode cX6_letter 61 = .ok (.aload_n 0, 1) := by decide +kernel
theorem dX6_letter_62 : decode cX6_letter 62 = .ok (.getfield 13, 3) := by decide +kernel
theorem dX6_letter_65 : decode cX6_letter 65 = .ok (.iload_n 1, 1) := by decide +kernel
theorem dX6_letter_66 : decode cX6_letter 66 = .ok (.bipush 15, 2) := by decide +kernel
theorem dX6_letter_68 : decode cX6_letter 68 = .ok (.iconst 2, 1) := by decide +kernel
theorem dX6_letter_69 : decode cX6_letter 69 = .ok (.iload_n 2, 1) := by decide +kernel
theorem dX6_letter_70 : decode cX6_letter 70 = .ok (.imul, 1) := by decide +kernel
theorem dX6_letter_71 : decode cX6_letter 71 = .ok (.iadd, 1) := by decide +kernel
theorem dX6_letter_72 : decode cX6_letter 72 = .ok (.iload_n 3, 1) := by decide +kernel
theorem dX6_letter_73 : decode cX6_letter 73 = .ok (.iadd, 1) := by decide +kernel
theorem dX6_letter_74 : decode cX6_letter 74 = .ok (.invokestatic 54, 3) := by decide +kernel
theorem dX6_letter_77 : decode cX6_letter 77 = .ok (.ireturn, 1) := by decide +kernel
theorem dX6_planned_0 : decode cX6_planned 0 = .ok (.aload_n 0, 1) := by decide +kernel
theorem dX6_planned_1 : decode cX6_planned 1 = .ok (.iload_n 1, 1) := by decide +kernel
theorem dX6_planned_2 : decode cX6_planned 2 = .ok (.i2l, 1) := by decide +kernel
theorem dX6_planned_3 : decode cX6_planned 3 = .ok (.lconst 0, 1) := by decide +kernel
theorem dX6_planned_4 : decode cX6_planned 4 = .ok (.aload_n 0, 1) := by decide +kernel
theorem dX6_planned_5 : decode cX6_planned 5 = .ok (.getfield 13, 3) := by decide +kernel
theorem dX6_planned_8 : decode cX6_planned 8 = .ok (.iconst 2, 1) := by decide +kernel
theorem dX6_planned_9 : decode cX6_planned 9 = .ok (.iaload, 1) := by decide +kernel
theorem dX6_planned_10 : decode cX6_planned 10 = .ok (.iconst 1, 1) := by decide +kernel
theorem dX6_planned_11 : decode cX6_planned 11 = .ok (.isub, 1) := by decide +kernel
theorem dX6_planned_12 : decode cX6_planned 12 = .ok (.i2l, 1) := by decide +kernel
theorem dX6_planned_13 : decode cX6_planned 13 = .ok (.invokestatic 48, 3) := by decide +kernel
theorem dX6_planned_16 : decode cX6_planned 16 = .ok (.ifCond .ne 7, 3) := by decide +kernel
theorem dX6_planned_19 : decode cX6_planned 19 = .ok (.iconst 1, 1) := by decide +kernel
theorem dX6_planned_20 : decode cX6_planned 20 = .ok (.goto 20, 3) := by decide +kernel
theorem dX6_planned_23 : decode cX6_planned 23 = .ok (.iload_n 2, 1) := by decide +kernel
theorem dX6_planned_24 : decode cX6_planned 24 = .ok (.i2l, 1) := by decide +kernel
theorem dX6_planned_25 : decode cX6_planned 25 = .ok (.lconst 0, 1) := by decide +kernel
theorem dX6_planned_26 : decode cX6_planned 26 = .ok (.ldc2_w 170, 3) := by decide +kernel
theorem dX6_planned_29 : decode cX6_planned 29 = .ok (.invokestatic 48, 3) := by decide +kernel
theorem dX6_planned_32 : decode cX6_planned 32 = .ok (.ifCond .eq 7, 3) := by decide +kernel
theorem dX6_planned_35 : decode cX6_planned 35 = .ok (.iconst 0, 1) := by decide +kernel
theorem dX6_planned_36 : decode cX6_planned 36 = .ok (.goto 4, 3) := by decide +kernel
theorem dX6_planned_39 : decode cX6_planned 39 = .ok (.iconst 2, 1) := by decide +kernel
theorem dX6_planned_40 : decode cX6_planned 40 = .ok (.invokevirtual 120, 3) := by decide +kernel
theorem dX6_planned_43 : decode cX6_planned 43 = .ok (.ifCond .eq 5, 3) := by decide +kernel
theorem dX6_planned_46 : decode cX6_planned 46 = .ok (.iconst 0, 1) := by decide +kernel
theorem dX6_planned_47 : decode cX6_planned 47 = .ok (.ireturn, 1) := by decide +kernel
theorem dX6_planned_48 : decode cX6_planned 48 = .ok (.aload_n 0, 1) := by decide +kernel
theorem dX6_planned_49 : decode cX6_planned 49 = .ok (.getfield 13, 3) := by decide +kernel
theorem dX6_planned_52 : decode cX6_planned 52 = .ok (.bipush 7, 2) := by decide +kernel
theorem dX6_planned_54 : decode cX6_planned 54 = .ok (.iconst 3, 1) := by decide +kernel
theorem dX6_planned_55 : decode cX6_planned 55 = .ok (.iload_n 1, 1) := by decide +kernel
theorem dX6_planned_56 : decode cX6_planned 56 = .ok (.imul, 1) := by decide +kernel
theorem dX6_planned_57 : decode cX6_planned 57 = .ok (.iadd, 1) := by decide +kernel
theorem dX6_planned_58 : decode cX6_planned 58 = .ok (.iload_n 2, 1) := by decide +kernel
theorem dX6_planned_59 : decode cX6_planned 59 = .ok (.iadd, 1) := by decide +kernel
theorem dX6_planned_60 : decode cX6_planned 60 = .ok (.iaload, 1) := by decide +kernel
theorem dX6_planned_61 : decode cX6_planned 61 = .ok (.ireturn, 1) := by decide +kernel
theorem dX6_setting_0 : decode cX6_setting 0 = .ok (.aload_n 0, 1) := by decide +kernel
theorem dX6_setting_1 : decode cX6_setting 1 = .ok (.iload_n 1, 1) := by decide +kernel
theorem dX6_setting_2 : decode cX6_setting 2 = .ok (.i2l, 1) := by decide +kernel
theorem dX6_setting_3 : decode cX6_setting 3 = .ok (.lconst 0, 1) := by decide +kernel
theorem dX6_setting_4 : decode cX6_setting 4 = .ok (.ldc2_w 172, 3) := by decide +kernel
theorem dX6_setting_7 : decode cX6_setting 7 = .ok (.invokestatic 48, 3) := by decide +kernel
theorem dX6_setting_10 : decode cX6_setting 10 = .ok (.ifCond .eq 7, 3) := by decide +kernel
theorem dX6_setting_13 : decode cX6_setting 13 = .ok (.iconst 0, 1) := by decide +kernel
theorem dX6_setting_14 : decode cX6_setting 14 = .ok (.goto 4, 3) := by decide +kernel
theorem dX6_setting_17 : decode cX6_setting 17 = .ok (.iconst 1, 1) := by decide +kernel
theorem dX6_setting_18 : decode cX6_setting 18 = .ok (.invokevirtual 120, 3) := by decide +kernel
theorem dX6_setting_21 : decode cX6_setting 21 = .ok (.ifCond .eq 5, 3) := by decide +kernel
theorem dX6_setting_24 : decode cX6_setting 24 = .ok (.iconst 0, 1) := by decide +kernel
theorem dX6_setting_25 : decode cX6_setting 25 = .ok (.ireturn, 1) := by decide +kernel
theorem dX6_setting_26 : decode cX6_setting 26 = .ok (.aload_n 0, 1) := by decide +kernel
theorem dX6_setting_27 : decode cX6_setting 27 = .ok (.getfield 13, 3) := by decide +kernel
theorem dX6_setting_30 : decode cX6_setting 30 = .ok (.iconst 3, 1) := by decide +kernel
theorem dX6_setting_31 : decode cX6_setting 31 = .ok (.iload_n 1, 1) := by decide +kernel
theorem dX6_setting_32 : decode cX6_setting 32 = .ok (.iadd, 1) := by decide +kernel
theorem dX6_setting_33 : decode cX6_setting 33 = .ok (.iaload, 1) := by decide +kernel
theorem dX6_setting_34 : decode cX6_setting 34 = .ok (.ireturn, 1) := by decide +kernel
theorem dX6_remember_0 : decode cX6_remember 0 = .ok (.aload_n 0, 1) := by decide +kernel
theorem dX6_remember_1 : decode cX6_remember 1 = .ok (.getfield 163, 3) := by decide +kernel
theorem dX6_remember_4 : decode cX6_remember 4 = .ok (.bipush 14, 2) := by decide +kernel
theorem dX6_remember_6 : decode cX6_remember 6 = .ok (.if_icmp .ne 44, 3) := by decide +kernel
theorem dX6_remember_9 : decode cX6_remember 9 = .ok (.iconst 0, 1) := by decide +kernel
theorem dX6_remember_10 : decode cX6_remember 10 = .ok (.istore_n 1, 1) := by decide +kernel
theorem dX6_remember_11 : decode cX6_remember 11 = .ok (.iload_n 1, 1) := by decide +kernel
theorem dX6_remember_12 : decode cX6_remember 12 = .ok (.sipush 2431, 3) := by decide +kernel
theorem dX6_remember_15 : decode cX6_remember 15 = .ok (.if_icmp .ge 25, 3) := by decide +kernel
theorem dX6_remember_18 : decode cX6_remember 18 = .ok (.aload_n 0, 1) := by decide +kernel
theorem dX6_remember_19 : decode cX6_remember 19 = .ok (.getfield 22, 3) := by decide +kernel
theorem dX6_remember_22 : decode cX6_remember 22 = .ok (.iload_n 1, 1) := by decide +kernel
theorem dX6_remember_23 : decode cX6_remember 23 = .ok (.aload_n 0, 1) := by decide +kernel
theorem dX6_remember_24 : decode cX6_remember 24 = .ok (.getfield 22, 3) := by decide +kernel
theorem dX6_remember_27 : decode cX6_remember 27 = .ok (.iload_n 1, 1) := by decide +kernel
theorem dX6_remember_28 : decode cX6_remember 28 = .ok (.sipush 187, 3) := by decide +kernel
theorem dX6_remember_31 : decode cX6_remember 31 = .ok (.iadd, 1) := by decide +kernel
theorem dX6_remember_32 : decode cX6_remember 32 = .ok (.iaload, 1) := by decide +kernel
theorem dX6_remember_33 : decode cX6_remember 33 = .ok (.iastore, 1) := by decide +kernel
theorem dX6_remember_34 : decode cX6_remember 34 = .ok (.iinc 1 1, 3) := by decide +kernel
theorem dX6_remember_37 : decode cX6_remember 37 = .ok (.goto (-26), 3) := by decide +kernel
theorem dX6_remember_40 : decode cX6_remember 40 = .ok (.aload_n 0, 1) := by decide +kernel
theorem dX6_remember_41 : decode cX6_remember 41 = .ok (.dup, 1) := by decide +kernel
theorem dX6_remember_42 : decode cX6_remember 42 = .ok (.getfield 163, 3) := by decide +kernel
theorem dX6_remember_45 : decode cX6_remember 45 = .ok (.iconst 1, 1) := by decide +kernel
theorem dX6_remember_46 : decode cX6_remember 46 = .ok (.isub, 1) := by decide +kernel
theorem dX6_remember_47 : decode cX6_remember 47 = .ok (.putfield 163, 3) := by decide +kernel
theorem dX6_remember_50 : decode cX6_remember 50 = .ok (.aload_n 0, 1) := by decide +kernel
theorem dX6_remember_51 : decode cX6_remember 51 = .ok (.getfield 13, 3) := by decide +kernel
theorem dX6_remember_54 : decode cX6_remember 54 = .ok (.iconst 0, 1) := by decide +kernel
theorem dX6_remember_55 : decode cX6_remember 55 = .ok (.aload_n 0, 1) := by decide +kernel
theorem dX6_remember_56 : decode cX6_remember 56 = .ok (.getfield 22, 3) := by decide +kernel
theorem dX6_remember_59 : decode cX6_remember 59 = .ok (.sipush 187, 3) := by decide +kernel
theorem dX6_remember_62 : decode cX6_remember 62 = .ok (.aload_n 0, 1) := by decide +kernel
theorem dX6_remember_63 : decode cX6_remember 63 = .ok (.getfield 163, 3) := by decide +kernel
theorem dX6_remember_66 : decode cX6_remember 66 = .ok (.imul, 1) := by decide +kernel
theorem dX6_remember_67 : decode cX6_remember 67 = .ok (.invokestatic 159, 3) := by decide +kernel
theorem dX6_remember_70 : decode cX6_remember 70 = .ok (.aload_n 0, 1) := by decide +kernel
theorem dX6_remember_71 : decode cX6_remember 71 = .ok (.dup, 1) := by decide +kernel
theorem dX6_remember_72 : decode cX6_remember 72 = .ok (.getfield 163, 3) := by decide +kernel
theorem dX6_remember_75 : decode cX6_remember 75 = .ok (.iconst 1, 1) := by decide +kernel
theorem dX6_remember_76 : decode cX6_remember 76 = .ok (.iadd, 1) := by decide +kernel
theorem dX6_remember_77 : decode cX6_remember 77 = .ok (.putfield 163, 3) := by decide +kernel
theorem dX6_remember_80 : decode cX6_remember 80 = .ok (.return_, 1) := by decide +kernel
theorem dX6_post_0 : decode cX6_post 0 = .ok (.aload_n 0, 1) := by decide +kernel
theorem dX6_post_1 : decode cX6_post 1 = .ok (.iload_n 1, 1) := by decide +kernel
theorem dX6_post_2 : decode cX6_post 2 = .ok (.i2l, 1) := by decide +kernel
theorem dX6_post_3 : decode cX6_post 3 = .ok (.lconst 1, 1) := by decide +kernel
theorem dX6_post_4 : decode cX6_post 4 = .ok (.ldc2_w 105, 3) := by decide +kernel
theorem dX6_post_7 : decode cX6_post 7 = .ok (.invokestatic 48, 3) := by decide +kernel
theorem dX6_post_10 : decode cX6_post 10 = .ok (.ifCond .eq 7, 3) := by decide +kernel
theorem dX6_post_13 : decode cX6_post 13 = .ok (.iconst 0, 1) := by decide +kernel
theorem dX6_post_14 : decode cX6_post 14 = .ok (.goto 4, 3) := by decide +kernel
theorem dX6_post_17 : decode cX6_post 17 = .ok (.iconst 1, 1) := by decide +kernel
theorem dX6_post_18 : decode cX6_post 18 = .ok (.invokevirtual 120, 3) := by decide +kernel
theorem dX6_post_21 : decode cX6_post 21 = .ok (.ifCond .eq 5, 3) := by decide +kernel
theorem dX6_post_24 : decode cX6_post 24 = .ok (.iconst 0, 1) := by decide +kernel
theorem dX6_post_25 : decode cX6_post 25 = .ok (.ireturn, 1) := by decide +kernel
theorem dX6_post_26 : decode cX6_post 26 = .ok (.aload_n 0, 1) := by decide +kernel
theorem dX6_post_27 : decode cX6_post 27 = .ok (.invokevirtual 174, 3) := by decide +kernel
theorem dX6_post_30 : decode cX6_post 30 = .ok (.aload_n 0, 1) := by decide +kernel
theorem dX6_post_31 : decode cX6_post 31 = .ok (.getfield 13, 3) := by decide +kernel
theorem dX6_post_34 : decode cX6_post 34 = .ok (.iload_n 1, 1) := by decide +kernel
theorem dX6_post_35 : decode cX6_post 35 = .ok (.invokestatic 32, 3) := by decide +kernel
theorem dX6_post_38 : decode cX6_post 38 = .ok (.iload_n 1, 1) := by decide +kernel
theorem dX6_post_39 : decode cX6_post 39 = .ok (.ireturn, 1) := by decide +kernel
theorem dX6_write_0 : decode cX6_write 0 = .ok (.aload_n 0, 1) := by decide +kernel
theorem dX6_write_1 : decode cX6_write 1 = .ok (.aload_n 0, 1) := by decide +kernel
theorem dX6_write_2 : decode cX6_write 2 = .ok (.getfield 13, 3) := by decide +kernel
theorem dX6_write_5 : decode cX6_write 5 = .ok (.iload_n 1, 1) := by decide +kernel
theorem dX6_write_6 : decode cX6_write 6 = .ok (.invokestatic 134, 3) := by decide +kernel
theorem dX6_write_9 : decode cX6_write 9 = .ok (.ifCond .ne 7, 3) := by decide +kernel
theorem dX6_write_12 : decode cX6_write 12 = .ok (.iconst 1, 1) := by decide +kernel
theorem dX6_write_13 : decode cX6_write 13 = .ok (.goto 31, 3) := by decide +kernel
theorem dX6_write_16 : decode cX6_write 16 = .ok (.iload_n 2, 1) := by decide +kernel
theorem dX6_write_17 : decode cX6_write 17 = .ok (.invokestatic 177, 3) := by decide +kernel
theorem dX6_write_20 : decode cX6_write 20 = .ok (.ifCond .ne 7, 3) := by decide +kernel
theorem dX6_write_23 : decode cX6_write 23 = .ok (.iconst 2, 1) := by decide +kernel
theorem dX6_write_24 : decode cX6_write 24 = .ok (.goto 20, 3) := by decide +kernel
theorem dX6_write_27 : decode cX6_write 27 = .ok (.aload_n 0, 1) := by decide +kernel
theorem dX6_write_28 : decode cX6_write 28 = .ok (.getfield 13, 3) := by decide +kernel
theorem dX6_write_31 : decode cX6_write 31 = .ok (.iload_n 1, 1) := by decide +kernel
theorem dX6_write_32 : decode cX6_write 32 = .ok (.iload_n 2, 1) := by decide +kernel
theorem dX6_write_33 : decode cX6_write 33 = .ok (.invokestatic 82, 3) := by decide +kernel
theorem dX6_write_36 : decode cX6_write 36 = .ok (.ifCond .eq 7, 3) := by decide +kernel
theorem dX6_write_39 : decode cX6_write 39 = .ok (.iconst 0, 1) := by decide +kernel
theorem dX6_write_40 : decode cX6_write 40 = .ok (.goto 4, 3) := by decide +kernel
theorem dX6_write_43 : decode cX6_write 43 = .ok (.iconst 3, 1) := by decide +kernel
theorem dX6_write_44 : decode cX6_write 44 = .ok (.invokevirtual 120, 3) := by decide +kernel
theorem dX6_write_47 : decode cX6_write 47 = .ok (.ifCond .eq 5, 3) := by decide +kernel
theorem dX6_write_50 : decode cX6_write 50 = .ok (.iconst 0, 1) := by decide +kernel
theorem dX6_write_51 : decode cX6_write 51 = .ok (.ireturn, 1) := by decide +kernel
theorem dX6_write_52 : decode cX6_write 52 = .ok (.aload_n 0, 1) := by decide +kernel
theorem dX6_write_53 : decode cX6_write 53 = .ok (.invokevirtual 174, 3) := by decide +kernel
theorem dX6_write_56 : decode cX6_write 56 = .ok (.aload_n 0, 1) := by decide +kernel
theorem dX6_write_57 : decode cX6_write 57 = .ok (.getfield 13, 3) := by decide +kernel
theorem dX6_write_60 : decode cX6_write 60 = .ok (.iload_n 1, 1) := by decide +kernel
theorem dX6_write_61 : decode cX6_write 61 = .ok (.iload_n 2, 1) := by decide +kernel
theorem dX6_write_62 : decode cX6_write 62 = .ok (.invokestatic 86, 3) := by decide +kernel
theorem dX6_write_65 : decode cX6_write 65 = .ok (.ireturn, 1) := by decide +kernel
theorem dX6_plan_0 : decode cX6_plan 0 = .ok (.aload_n 0, 1) := by decide +kernel
theorem dX6_plan_1 : decode cX6_plan 1 = .ok (.aload_n 0, 1) := by decide +kernel
theorem dX6_plan_2 : decode cX6_plan 2 = .ok (.getfield 13, 3) := by decide +kernel
theorem dX6_plan_5 : decode cX6_plan 5 = .ok (.iload_n 2, 1) := by decide +kernel
theorem dX6_plan_6 : decode cX6_plan 6 = .ok (.invokestatic 134, 3) := by decide +kernel
theorem dX6_plan_9 : decode cX6_plan 9 = .ok (.ifCond .ne 7, 3) := by decide +kernel
theorem dX6_plan_12 : decode cX6_plan 12 = .ok (.iconst 1, 1) := by decide +kernel
theorem dX6_plan_13 : decode cX6_plan 13 = .ok (.goto 42, 3) := by decide +kernel
theorem dX6_plan_16 : decode cX6_plan 16 = .ok (.iload_n 1, 1) := by decide +kernel
theorem dX6_plan_17 : decode cX6_plan 17 = .ok (.i2l, 1) := by decide +kernel
theorem dX6_plan_18 : decode cX6_plan 18 = .ok (.lconst 1, 1) := by decide +kernel
theorem dX6_plan_19 : decode cX6_plan 19 = .ok (.ldc2_w 107, 3) := by decide +kernel
theorem dX6_plan_22 : decode cX6_plan 22 = .ok (.invokestatic 48, 3) := by decide +kernel
theorem dX6_plan_25 : decode cX6_plan 25 = .ok (.ifCond .eq 10, 3) := by decide +kernel
theorem dX6_plan_28 : decode cX6_plan 28 = .ok (.iload_n 3, 1) := by decide +kernel
theorem dX6_plan_29 : decode cX6_plan 29 = .ok (.invokestatic 177, 3) := by decide +kernel
theorem dX6_plan_32 : decode cX6_plan 32 = .ok (.ifCond .ne 7, 3) := by decide +kernel
theorem dX6_plan_35 : decode cX6_plan 35 = .ok (.iconst 2, 1) := by decide +kernel
theorem dX6_plan_36 : decode cX6_plan 36 = .ok (.goto 19, 3) := by decide +kernel
theorem dX6_plan_39 : decode cX6_plan 39 = .ok (.aload_n 0, 1) := by decide +kernel
theorem dX6_plan_40 : decode cX6_plan 40 = .ok (.getfield 13, 3) := by decide +kernel
theorem dX6_plan_43 : decode cX6_plan 43 = .ok (.iconst 2, 1) := by decide +kernel
theorem dX6_plan_44 : decode cX6_plan 44 = .ok (.iaload, 1) := by decide +kernel
theorem dX6_plan_45 : decode cX6_plan 45 = .ok (.bipush 8, 2) := by decide +kernel
theorem dX6_plan_47 : decode cX6_plan 47 = .ok (.if_icmp .ge 7, 3) := by decide +kernel
theorem dX6_plan_50 : decode cX6_plan 50 = .ok (.iconst 0, 1) := by decide +kernel
theorem dX6_plan_51 : decode cX6_plan 51 = .ok (.goto 4, 3) := by decide +kernel
theorem dX6_plan_54 : decode cX6_plan 54 = .ok (.iconst 3, 1) := by decide +kernel
theorem dX6_plan_55 : decode cX6_plan 55 = .ok (.invokevirtual 120, 3) := by decide +kernel
theorem dX6_plan_58 : decode cX6_plan 58 = .ok (.ifCond .eq 5, 3) := by decide +kernel
theorem dX6_plan_61 : decode cX6_plan 61 = .ok (.iconst 0, 1) := by decide +kernel
theorem dX6_plan_62 : decode cX6_plan 62 = .ok (.ireturn, 1) := by decide +kernel
theorem dX6_plan_63 : decode cX6_plan 63 = .ok (.aload_n 0, 1) := by decide +kernel
theorem dX6_plan_64 : decode cX6_plan 64 = .ok (.invokevirtual 174, 3) := by decide +kernel
theorem dX6_plan_67 : decode cX6_plan 67 = .ok (.aload_n 0, 1) := by decide +kernel
theorem dX6_plan_68 : decode cX6_plan 68 = .ok (.getfield 13, 3) := by decide +kernel
theorem dX6_plan_71 : decode cX6_plan 71 = .ok (.iload_n 1, 1) := by decide +kernel
theorem dX6_plan_72 : decode cX6_plan 72 = .ok (.iload_n 2, 1) := by decide +kernel
theorem dX6_plan_73 : decode cX6_plan 73 = .ok (.iload_n 3, 1) := by decide +kernel
theorem dX6_plan_74 : decode cX6_plan 74 = .ok (.invokestatic 141, 3) := by decide +kernel
theorem dX6_plan_77 : decode cX6_plan 77 = .ok (.ireturn, 1) := by decide +kernel
theorem dX6_hold_0 : decode cX6_hold 0 = .ok (.aload_n 0, 1) := by decide +kernel
theorem dX6_hold_1 : decode cX6_hold 1 = .ok (.aload_n 0, 1) := by decide +kernel
theorem dX6_hold_2 : decode cX6_hold 2 = .ok (.getfield 13, 3) := by decide +kernel
theorem dX6_hold_5 : decode cX6_hold 5 = .ok (.iload_n 1, 1) := by decide +kernel
theorem dX6_hold_6 : decode cX6_hold 6 = .ok (.invokestatic 134, 3) := by decide +kernel
theorem dX6_hold_9 : decode cX6_hold 9 = .ok (.ifCond .eq 7, 3) := by decide +kernel
theorem dX6_hold_12 : decode cX6_hold 12 = .ok (.iconst 0, 1) := by decide +kernel
theorem dX6_hold_13 : decode cX6_hold 13 = .ok (.goto 4, 3) := by decide +kernel
theorem dX6_hold_16 : decode cX6_hold 16 = .ok (.iconst 1, 1) := by decide +kernel
theorem dX6_hold_17 : decode cX6_hold 17 = .ok (.invokevirtual 120, 3) := by decide +kernel
theorem dX6_hold_20 : decode cX6_hold 20 = .ok (.ifCond .eq 5, 3) := by decide +kernel
theorem dX6_hold_23 : decode cX6_hold 23 = .ok (.iconst 0, 1) := by decide +kernel
theorem dX6_hold_24 : decode cX6_hold 24 = .ok (.ireturn, 1) := by decide +kernel
theorem dX6_hold_25 : decode cX6_hold 25 = .ok (.aload_n 0, 1) := by decide +kernel
theorem dX6_hold_26 : decode cX6_hold 26 = .ok (.invokevirtual 174, 3) := by decide +kernel
theorem dX6_hold_29 : decode cX6_hold 29 = .ok (.aload_n 0, 1) := by decide +kernel
theorem dX6_hold_30 : decode cX6_hold 30 = .ok (.getfield 13, 3) := by decide +kernel
theorem dX6_hold_33 : decode cX6_hold 33 = .ok (.iload_n 1, 1) := by decide +kernel
theorem dX6_hold_34 : decode cX6_hold 34 = .ok (.iload_n 2, 1) := by decide +kernel
theorem dX6_hold_35 : decode cX6_hold 35 = .ok (.invokestatic 145, 3) := by decide +kernel
theorem dX6_hold_38 : decode cX6_hold 38 = .ok (.ireturn, 1) := by decide +kernel
theorem dX6_flush_0 : decode cX6_flush 0 = .ok (.aload_n 0, 1) := by decide +kernel
theorem dX6_flush_1 : decode cX6_flush 1 = .ok (.aload_n 0, 1) := by decide +kernel
theorem dX6_flush_2 : decode cX6_flush 2 = .ok (.getfield 13, 3) := by decide +kernel
theorem dX6_flush_5 : decode cX6_flush 5 = .ok (.iload_n 1, 1) := by decide +kernel
theorem dX6_flush_6 : decode cX6_flush 6 = .ok (.invokestatic 134, 3) := by decide +kernel
theorem dX6_flush_9 : decode cX6_flush 9 = .ok (.ifCond .eq 7, 3) := by decide +kernel
theorem dX6_flush_12 : decode cX6_flush 12 = .ok (.iconst 0, 1) := by decide +kernel
theorem dX6_flush_13 : decode cX6_flush 13 = .ok (.goto 4, 3) := by decide +kernel
theorem dX6_flush_16 : decode cX6_flush 16 = .ok (.iconst 1, 1) := by decide +kernel
theorem dX6_flush_17 : decode cX6_flush 17 = .ok (.invokevirtual 120, 3) := by decide +kernel
theorem dX6_flush_20 : decode cX6_flush 20 = .ok (.ifCond .eq 5, 3) := by decide +kernel
theorem dX6_flush_23 : decode cX6_flush 23 = .ok (.iconst 0, 1) := by decide +kernel
theorem dX6_flush_24 : decode cX6_flush 24 = .ok (.ireturn, 1) := by decide +kernel
theorem dX6_flush_25 : decode cX6_flush 25 = .ok (.aload_n 0, 1) := by decide +kernel
theorem dX6_flush_26 : decode cX6_flush 26 = .ok (.invokevirtual 174, 3) := by decide +kernel
theorem dX6_flush_29 : decode cX6_flush 29 = .ok (.aload_n 0, 1) := by decide +kernel
theorem dX6_flush_30 : decode cX6_flush 30 = .ok (.getfield 13, 3) := by decide +kernel
theorem dX6_flush_33 : decode cX6_flush 33 = .ok (.iload_n 1, 1) := by decide +kernel
theorem dX6_flush_34 : decode cX6_flush 34 = .ok (.iconst 0, 1) := by decide +kernel
theorem dX6_flush_35 : decode cX6_flush 35 = .ok (.invokestatic 62, 3) := by decide +kernel
theorem dX6_flush_38 : decode cX6_flush 38 = .ok (.ireturn, 1) := by decide +kernel
theorem dX6_ticks_0 : decode cX6_ticks 0 = .ok (.aload_n 0, 1) := by decide +kernel
theorem dX6_ticks_1 : decode cX6_ticks 1 = .ok (.iload_n 1, 1) := by decide +kernel
theorem dX6_ticks_2 : decode cX6_ticks 2 = .ok (.i2l, 1) := by decide +kernel
theorem dX6_ticks_3 : decode cX6_ticks 3 = .ok (.lconst 1, 1) := by decide +kernel
theorem dX6_ticks_4 : decode cX6_ticks 4 = .ok (.ldc2_w 107, 3) := by decide +kernel
theorem dX6_ticks_7 : decode cX6_ticks 7 = .ok (.invokestatic 48, 3) := by decide +kernel
theorem dX6_ticks_10 : decode cX6_ticks 10 = .ok (.ifCond .ne 7, 3) := by decide +kernel
theorem dX6_ticks_13 : decode cX6_ticks 13 = .ok (.iconst 1, 1) := by decide +kernel
theorem dX6_ticks_14 : decode cX6_ticks 14 = .ok (.goto 21, 3) := by decide +kernel
theorem dX6_ticks_17 : decode cX6_ticks 17 = .ok (.aload_n 0, 1) := by decide +kernel
theorem dX6_ticks_18 : decode cX6_ticks 18 = .ok (.getfield 13, 3) := by decide +kernel
theorem dX6_ticks_21 : decode cX6_ticks 21 = .ok (.iconst 1, 1) := by decide +kernel
theorem dX6_ticks_22 : decode cX6_ticks 22 = .ok (.iaload, 1) := by decide +kernel
theorem dX6_ticks_23 : decode cX6_ticks 23 = .ok (.iload_n 1, 1) := by decide +kernel
theorem dX6_ticks_24 : decode cX6_ticks 24 = .ok (.iadd, 1) := by decide +kernel
theorem dX6_ticks_25 : decode cX6_ticks 25 = .ok (.ldc 180, 2) := by decide +kernel
theorem dX6_ticks_27 : decode cX6_ticks 27 = .ok (.if_icmp .le 7, 3) := by decide +kernel
theorem dX6_ticks_30 : decode cX6_ticks 30 = .ok (.iconst 2, 1) := by decide +kernel
theorem dX6_ticks_31 : decode cX6_ticks 31 = .ok (.goto 4, 3) := by decide +kernel
theorem dX6_ticks_34 : decode cX6_ticks 34 = .ok (.iconst 0, 1) := by decide +kernel
theorem dX6_ticks_35 : decode cX6_ticks 35 = .ok (.invokevirtual 120, 3) := by decide +kernel
theorem dX6_ticks_38 : decode cX6_ticks 38 = .ok (.ifCond .eq 5, 3) := by decide +kernel
theorem dX6_ticks_41 : decode cX6_ticks 41 = .ok (.iconst 0, 1) := by decide +kernel
theorem dX6_ticks_42 : decode cX6_ticks 42 = .ok (.ireturn, 1) := by decide +kernel
theorem dX6_ticks_43 : decode cX6_ticks 43 = .ok (.aload_n 0, 1) := by decide +kernel
theorem dX6_ticks_44 : decode cX6_ticks 44 = .ok (.invokevirtual 174, 3) := by decide +kernel
theorem dX6_ticks_47 : decode cX6_ticks 47 = .ok (.aload_n 0, 1) := by decide +kernel
theorem dX6_ticks_48 : decode cX6_ticks 48 = .ok (.getfield 13, 3) := by decide +kernel
theorem dX6_ticks_51 : decode cX6_ticks 51 = .ok (.iload_n 1, 1) := by decide +kernel
theorem dX6_ticks_52 : decode cX6_ticks 52 = .ok (.invokestatic 148, 3) := by decide +kernel
theorem dX6_ticks_55 : decode cX6_ticks 55 = .ok (.ireturn, 1) := by decide +kernel
theorem dX6_set_0 : decode cX6_set 0 = .ok (.aload_n 0, 1) := by decide +kernel
theorem dX6_set_1 : decode cX6_set 1 = .ok (.iload_n 1, 1) := by decide +kernel
theorem dX6_set_2 : decode cX6_set 2 = .ok (.iload_n 2, 1) := by decide +kernel
theorem dX6_set_3 : decode cX6_set 3 = .ok (.invokestatic 181, 3) := by decide +kernel
theorem dX6_set_6 : decode cX6_set 6 = .ok (.ifCond .eq 7, 3) := by decide +kernel
theorem dX6_set_9 : decode cX6_set 9 = .ok (.iconst 0, 1) := by decide +kernel
theorem dX6_set_10 : decode cX6_set 10 = .ok (.goto 4, 3) := by decide +kernel
theorem dX6_set_13 : decode cX6_set 13 = .ok (.iconst 1, 1) := by decide +kernel
theorem dX6_set_14 : decode cX6_set 14 = .ok (.invokevirtual 120, 3) := by decide +kernel
theorem dX6_set_17 : decode cX6_set 17 = .ok (.ifCond .eq 5, 3) := by decide +kernel
theorem dX6_set_20 : decode cX6_set 20 = .ok (.iconst 0, 1) := by decide +kernel
theorem dX6_set_21 : decode cX6_set 21 = .ok (.ireturn, 1) := by decide +kernel
theorem dX6_set_22 : decode cX6_set 22 = .ok (.aload_n 0, 1) := by decide +kernel
theorem dX6_set_23 : decode cX6_set 23 = .ok (.invokevirtual 174, 3) := by decide +kernel
theorem dX6_set_26 : decode cX6_set 26 = .ok (.aload_n 0, 1) := by decide +kernel
theorem dX6_set_27 : decode cX6_set 27 = .ok (.getfield 13, 3) := by decide +kernel
theorem dX6_set_30 : decode cX6_set 30 = .ok (.iconst 3, 1) := by decide +kernel
theorem dX6_set_31 : decode cX6_set 31 = .ok (.iload_n 1, 1) := by decide +kernel
theorem dX6_set_32 : decode cX6_set 32 = .ok (.iadd, 1) := by decide +kernel
theorem dX6_set_33 : decode cX6_set 33 = .ok (.iaload, 1) := by decide +kernel
theorem dX6_set_34 : decode cX6_set 34 = .ok (.istore_n 3, 1) := by decide +kernel
theorem dX6_set_35 : decode cX6_set 35 = .ok (.aload_n 0, 1) := by decide +kernel
theorem dX6_set_36 : decode cX6_set 36 = .ok (.getfield 13, 3) := by decide +kernel
theorem dX6_set_39 : decode cX6_set 39 = .ok (.iconst 3, 1) := by decide +kernel
theorem dX6_set_40 : decode cX6_set 40 = .ok (.iload_n 1, 1) := by decide +kernel
theorem dX6_set_41 : decode cX6_set 41 = .ok (.iadd, 1) := by decide +kernel
theorem dX6_set_42 : decode cX6_set 42 = .ok (.iload_n 2, 1) := by decide +kernel
theorem dX6_set_43 : decode cX6_set 43 = .ok (.iastore, 1) := by decide +kernel
theorem dX6_set_44 : decode cX6_set 44 = .ok (.iload_n 3, 1) := by decide +kernel
theorem dX6_set_45 : decode cX6_set 45 = .ok (.ireturn, 1) := by decide +kernel
theorem dX6_undo_0 : decode cX6_undo 0 = .ok (.aload_n 0, 1) := by decide +kernel
theorem dX6_undo_1 : decode cX6_undo 1 = .ok (.aload_n 0, 1) := by decide +kernel
theorem dX6_undo_2 : decode cX6_undo 2 = .ok (.getfield 163, 3) := by decide +kernel
theorem dX6_undo_5 : decode cX6_undo 5 = .ok (.ifCond .ne 7, 3) := by decide +kernel
theorem dX6_undo_8 : decode cX6_undo 8 = .ok (.iconst 1, 1) := by decide +kernel
theorem dX6_undo_9 : decode cX6_undo 9 = .ok (.goto 4, 3) := by decide +kernel
theorem dX6_undo_12 : decode cX6_undo 12 = .ok (.iconst 0, 1) := by decide +kernel
theorem dX6_undo_13 : decode cX6_undo 13 = .ok (.invokevirtual 120, 3) := by decide +kernel
theorem dX6_undo_16 : decode cX6_undo 16 = .ok (.ifCond .eq 5, 3) := by decide +kernel
theorem dX6_undo_19 : decode cX6_undo 19 = .ok (.iconst 0, 1) := by decide +kernel
theorem dX6_undo_20 : decode cX6_undo 20 = .ok (.ireturn, 1) := by decide +kernel
theorem dX6_undo_21 : decode cX6_undo 21 = .ok (.aload_n 0, 1) := by decide +kernel
theorem dX6_undo_22 : decode cX6_undo 22 = .ok (.dup, 1) := by decide +kernel
theorem dX6_undo_23 : decode cX6_undo 23 = .ok (.getfield 163, 3) := by decide +kernel
theorem dX6_undo_26 : decode cX6_undo 26 = .ok (.iconst 1, 1) := by decide +kernel
theorem dX6_undo_27 : decode cX6_undo 27 = .ok (.isub, 1) := by decide +kernel
theorem dX6_undo_28 : decode cX6_undo 28 = .ok (.putfield 163, 3) := by decide +kernel
theorem dX6_undo_31 : decode cX6_undo 31 = .ok (.aload_n 0, 1) := by decide +kernel
theorem dX6_undo_32 : decode cX6_undo 32 = .ok (.getfield 22, 3) := by decide +kernel
theorem dX6_undo_35 : decode cX6_undo 35 = .ok (.sipush 187, 3) := by decide +kernel
theorem dX6_undo_38 : decode cX6_undo 38 = .ok (.aload_n 0, 1) := by decide +kernel
theorem dX6_undo_39 : decode cX6_undo 39 = .ok (.getfield 163, 3) := by decide +kernel
theorem dX6_undo_42 : decode cX6_undo 42 = .ok (.imul, 1) := by decide +kernel
theorem dX6_undo_43 : decode cX6_undo 43 = .ok (.aload_n 0, 1) := by decide +kernel
theorem dX6_undo_44 : decode cX6_undo 44 = .ok (.getfield 13, 3) := by decide +kernel
theorem dX6_undo_47 : decode cX6_undo 47 = .ok (.iconst 0, 1) := by decide +kernel
theorem dX6_undo_48 : decode cX6_undo 48 = .ok (.invokestatic 159, 3) := by decide +kernel
theorem dX6_undo_51 : decode cX6_undo 51 = .ok (.aload_n 0, 1) := by decide +kernel
theorem dX6_undo_52 : decode cX6_undo 52 = .ok (.getfield 163, 3) := by decide +kernel
theorem dX6_undo_55 : decode cX6_undo 55 = .ok (.ireturn, 1) := by decide +kernel
theorem dX6_doneIn_0 : decode cX6_doneIn 0 = .ok (.aload_n 0, 1) := by decide +kernel
theorem dX6_doneIn_1 : decode cX6_doneIn 1 = .ok (.aload_n 0, 1) := by decide +kernel
theorem dX6_doneIn_2 : decode cX6_doneIn 2 = .ok (.getfield 13, 3) := by decide +kernel
theorem dX6_doneIn_5 : decode cX6_doneIn 5 = .ok (.iload_n 1, 1) := by decide +kernel
theorem dX6_doneIn_6 : decode cX6_doneIn 6 = .ok (.invokestatic 134, 3) := by decide +kernel
theorem dX6_doneIn_9 : decode cX6_doneIn 9 = .ok (.ifCond .eq 7, 3) := by decide +kernel
theorem dX6_doneIn_12 : decode cX6_doneIn 12 = .ok (.iconst 0, 1) := by decide +kernel
theorem dX6_doneIn_13 : decode cX6_doneIn 13 = .ok (.goto 4, 3) := by decide +kernel
theorem dX6_doneIn_16 : decode cX6_doneIn 16 = .ok (.iconst 1, 1) := by decide +kernel
theorem dX6_doneIn_17 : decode cX6_doneIn 17 = .ok (.invokevirtual 120, 3) := by decide +kernel
theorem dX6_doneIn_20 : decode cX6_doneIn 20 = .ok (.ifCond .eq 5, 3) := by decide +kernel
theorem dX6_doneIn_23 : decode cX6_doneIn 23 = .ok (.iconst 0, 1) := by decide +kernel
theorem dX6_doneIn_24 : decode cX6_doneIn 24 = .ok (.ireturn, 1) := by decide +kernel
theorem dX6_doneIn_25 : decode cX6_doneIn 25 = .ok (.aload_n 0, 1) := by decide +kernel
theorem dX6_doneIn_26 : decode cX6_doneIn 26 = .ok (.getfield 13, 3) := by decide +kernel
theorem dX6_doneIn_29 : decode cX6_doneIn 29 = .ok (.iconst 0, 1) := by decide +kernel
theorem dX6_doneIn_30 : decode cX6_doneIn 30 = .ok (.aload_n 0, 1) := by decide +kernel
theorem dX6_doneIn_31 : decode cX6_doneIn 31 = .ok (.getfield 16, 3) := by decide +kernel
theorem dX6_doneIn_34 : decode cX6_doneIn 34 = .ok (.iconst 0, 1) := by decide +kernel
theorem dX6_doneIn_35 : decode cX6_doneIn 35 = .ok (.invokestatic 159, 3) := by decide +kernel
theorem dX6_doneIn_38 : decode cX6_doneIn 38 = .ok (.aload_n 0, 1) := by decide +kernel
theorem dX6_doneIn_39 : decode cX6_doneIn 39 = .ok (.getfield 16, 3) := by decide +kernel
theorem dX6_doneIn_42 : decode cX6_doneIn 42 = .ok (.iload_n 1, 1) := by decide +kernel
theorem dX6_doneIn_43 : decode cX6_doneIn 43 = .ok (.invokestatic 185, 3) := by decide +kernel
theorem dX6_doneIn_46 : decode cX6_doneIn 46 = .ok (.ireturn, 1) := by decide +kernel
theorem dX6_thereIn_0 : decode cX6_thereIn 0 = .ok (.aload_n 0, 1) := by decide +kernel
theorem dX6_thereIn_1 : decode cX6_thereIn 1 = .ok (.aload_n 0, 1) := by decide +kernel
theorem dX6_thereIn_2 : decode cX6_thereIn 2 = .ok (.getfield 13, 3) := by decide +kernel
theorem dX6_thereIn_5 : decode cX6_thereIn 5 = .ok (.iload_n 1, 1) := by decide +kernel
theorem dX6_thereIn_6 : decode cX6_thereIn 6 = .ok (.invokestatic 134, 3) := by decide +kernel
theorem dX6_thereIn_9 : decode cX6_thereIn 9 = .ok (.ifCond .ne 7, 3) := by decide +kernel
theorem dX6_thereIn_12 : decode cX6_thereIn 12 = .ok (.iconst 1, 1) := by decide +kernel
theorem dX6_thereIn_13 : decode cX6_thereIn 13 = .ok (.goto 15, 3) := by decide +kernel
theorem dX6_thereIn_16 : decode cX6_thereIn 16 = .ok (.iload_n 2, 1) := by decide +kernel
theorem dX6_thereIn_17 : decode cX6_thereIn 17 = .ok (.invokestatic 177, 3) := by decide +kernel
theorem dX6_thereIn_20 : decode cX6_thereIn 20 = .ok (.ifCond .eq 7, 3) := by decide +kernel
theorem dX6_thereIn_23 : decode cX6_thereIn 23 = .ok (.iconst 0, 1) := by decide +kernel
theorem dX6_thereIn_24 : decode cX6_thereIn 24 = .ok (.goto 4, 3) := by decide +kernel
theorem dX6_thereIn_27 : decode cX6_thereIn 27 = .ok (.iconst 2, 1) := by decide +kernel
theorem dX6_thereIn_28 : decode cX6_thereIn 28 = .ok (.invokevirtual 120, 3) := by decide +kernel
theorem dX6_thereIn_31 : decode cX6_thereIn 31 = .ok (.ifCond .eq 5, 3) := by decide +kernel
theorem dX6_thereIn_34 : decode cX6_thereIn 34 = .ok (.iconst 0, 1) := by decide +kernel
theorem dX6_thereIn_35 : decode cX6_thereIn 35 = .ok (.ireturn, 1) := by decide +kernel
theorem dX6_thereIn_36 : decode cX6_thereIn 36 = .ok (.aload_n 0, 1) := by decide +kernel
theorem dX6_thereIn_37 : decode cX6_thereIn 37 = .ok (.getfield 13, 3) := by decide +kernel
theorem dX6_thereIn_40 : decode cX6_thereIn 40 = .ok (.iload_n 1, 1) := by decide +kernel
theorem dX6_thereIn_41 : decode cX6_thereIn 41 = .ok (.iload_n 2, 1) := by decide +kernel
theorem dX6_thereIn_42 : decode cX6_thereIn 42 = .ok (.invokestatic 82, 3) := by decide +kernel
theorem dX6_thereIn_45 : decode cX6_thereIn 45 = .ok (.ifCond .ne 5, 3) := by decide +kernel
theorem dX6_thereIn_48 : decode cX6_thereIn 48 = .ok (.iconst (-1), 1) := by decide +kernel
theorem dX6_thereIn_49 : decode cX6_thereIn 49 = .ok (.ireturn, 1) := by decide +kernel
theorem dX6_thereIn_50 : decode cX6_thereIn 50 = .ok (.aload_n 0, 1) := by decide +kernel
theorem dX6_thereIn_51 : decode cX6_thereIn 51 = .ok (.getfield 13, 3) := by decide +kernel
theorem dX6_thereIn_54 : decode cX6_thereIn 54 = .ok (.iconst 0, 1) := by decide +kernel
theorem dX6_thereIn_55 : decode cX6_thereIn 55 = .ok (.aload_n 0, 1) := by decide +kernel
theorem dX6_thereIn_56 : decode cX6_thereIn 56 = .ok (.getfield 16, 3) := by decide +kernel
theorem dX6_thereIn_59 : decode cX6_thereIn 59 = .ok (.iconst 0, 1) := by decide +kernel
theorem dX6_thereIn_60 : decode cX6_thereIn 60 = .ok (.invokestatic 159, 3) := by decide +kernel
theorem dX6_thereIn_63 : decode cX6_thereIn 63 = .ok (.aload_n 0, 1) := by decide +kernel
theorem dX6_thereIn_64 : decode cX6_thereIn 64 = .ok (.getfield 16, 3) := by decide +kernel
theorem dX6_thereIn_67 : decode cX6_thereIn 67 = .ok (.iload_n 1, 1) := by decide +kernel
theorem dX6_thereIn_68 : decode cX6_thereIn 68 = .ok (.iload_n 2, 1) := by decide +kernel
theorem dX6_thereIn_69 : decode cX6_thereIn 69 = .ok (.invokestatic 86, 3) := by decide +kernel
theorem dX6_thereIn_72 : decode cX6_thereIn 72 = .ok (.pop, 1) := by decide +kernel
theorem dX6_thereIn_73 : decode cX6_thereIn 73 = .ok (.aload_n 0, 1) := by decide +kernel
theorem dX6_thereIn_74 : decode cX6_thereIn 74 = .ok (.getfield 16, 3) := by decide +kernel
theorem dX6_thereIn_77 : decode cX6_thereIn 77 = .ok (.iload_n 1, 1) := by decide +kernel
theorem dX6_thereIn_78 : decode cX6_thereIn 78 = .ok (.iconst 2, 1) := by decide +kernel
theorem dX6_thereIn_79 : decode cX6_thereIn 79 = .ok (.invokestatic 54, 3) := by decide +kernel
theorem dX6_thereIn_82 : decode cX6_thereIn 82 = .ok (.istore_n 3, 1) := by decide +kernel
theorem dX6_thereIn_83 : decode cX6_thereIn 83 = .ok (.iconst 0, 1) := by decide +kernel
theorem dX6_thereIn_84 : decode cX6_thereIn 84 = .ok (.istore 4, 2) := by decide +kernel
theorem dX6_thereIn_86 : decode cX6_thereIn 86 = .ok (.iload 4, 2) := by decide +kernel
theorem dX6_thereIn_88 : decode cX6_thereIn 88 = .ok (.sipush 400, 3) := by decide +kernel
theorem dX6_thereIn_91 : decode cX6_thereIn 91 = .ok (.if_icmp .ge 30, 3) := by decide +kernel
theorem dX6_thereIn_94 : decode cX6_thereIn 94 = .ok (.aload_n 0, 1) := by decide +kernel
theorem dX6_thereIn_95 : decode cX6_thereIn 95 = .ok (.getfield 16, 3) := by decide +kernel
theorem dX6_thereIn_98 : decode cX6_thereIn 98 = .ok (.iload_n 1, 1) := by decide +kernel
theorem dX6_thereIn_99 : decode cX6_thereIn 99 = .ok (.bipush 8, 2) := by decide +kernel
theorem dX6_thereIn_101 : decode cX6_thereIn 101 = .ok (.invokestatic 54, 3) := by decide +kernel
theorem dX6_thereIn_104 : decode cX6_thereIn 104 = .ok (.iload_n 3, 1) := by decide +kernel
theorem dX6_thereIn_105 : decode cX6_thereIn 105 = .ok (.if_icmp .ge 16, 3) := by decide +kernel
theorem dX6_thereIn_108 : decode cX6_thereIn 108 = .ok (.aload_n 0, 1) := by decide +kernel
theorem dX6_thereIn_109 : decode cX6_thereIn 109 = .ok (.getfield 16, 3) := by decide +kernel
theorem dX6_thereIn_112 : decode cX6_thereIn 112 = .ok (.invokestatic 98, 3) := by decide +kernel
theorem dX6_thereIn_115 : decode cX6_thereIn 115 = .ok (.iinc 4 1, 3) := by decide +kernel
theorem dX6_thereIn_118 : decode cX6_thereIn 118 = .ok (.goto (-32), 3) := by decide +kernel
theorem dX6_thereIn_121 : decode cX6_thereIn 121 = .ok (.aload_n 0, 1) := by decide +kernel
theorem dX6_thereIn_122 : decode cX6_thereIn 122 = .ok (.getfield 16, 3) := by decide +kernel
theorem dX6_thereIn_125 : decode cX6_thereIn 125 = .ok (.iload_n 1, 1) := by decide +kernel
theorem dX6_thereIn_126 : decode cX6_thereIn 126 = .ok (.bipush 8, 2) := by decide +kernel
theorem dX6_thereIn_128 : decode cX6_thereIn 128 = .ok (.invokestatic 54, 3) := by decide +kernel
theorem dX6_thereIn_131 : decode cX6_thereIn 131 = .ok (.iload_n 3, 1) := by decide +kernel
theorem dX6_thereIn_132 : decode cX6_thereIn 132 = .ok (.if_icmp .ge 7, 3) := by decide +kernel
theorem dX6_thereIn_135 : decode cX6_thereIn 135 = .ok (.iconst (-1), 1) := by decide +kernel
theorem dX6_thereIn_136 : decode cX6_thereIn 136 = .ok (.goto 5, 3) := by decide +kernel
theorem dX6_thereIn_139 : decode cX6_thereIn 139 = .ok (.iload 4, 2) := by decide +kernel
theorem dX6_thereIn_141 : decode cX6_thereIn 141 = .ok (.ireturn, 1) := by decide +kernel
theorem dX6_ifHeld_0 : decode cX6_ifHeld 0 = .ok (.aload_n 0, 1) := by decide +kernel
theorem dX6_ifHeld_1 : decode cX6_ifHeld 1 = .ok (.aload_n 0, 1) := by decide +kernel
theorem dX6_ifHeld_2 : decode cX6_ifHeld 2 = .ok (.getfield 13, 3) := by decide +kernel
theorem dX6_ifHeld_5 : decode cX6_ifHeld 5 = .ok (.iload_n 1, 1) := by decide +kernel
theorem dX6_ifHeld_6 : decode cX6_ifHeld 6 = .ok (.invokestatic 134, 3) := by decide +kernel
theorem dX6_ifHeld_9 : decode cX6_ifHeld 9 = .ok (.ifCond .ne 7, 3) := by decide +kernel
theorem dX6_ifHeld_12 : decode cX6_ifHeld 12 = .ok (.iconst 1, 1) := by decide +kernel
theorem dX6_ifHeld_13 : decode cX6_ifHeld 13 = .ok (.goto 20, 3) := by decide +kernel
theorem dX6_ifHeld_16 : decode cX6_ifHeld 16 = .ok (.iload_n 2, 1) := by decide +kernel
theorem dX6_ifHeld_17 : decode cX6_ifHeld 17 = .ok (.i2l, 1) := by decide +kernel
theorem dX6_ifHeld_18 : decode cX6_ifHeld 18 = .ok (.lconst 0, 1) := by decide +kernel
theorem dX6_ifHeld_19 : decode cX6_ifHeld 19 = .ok (.ldc2_w 172, 3) := by decide +kernel
theorem dX6_ifHeld_22 : decode cX6_ifHeld 22 = .ok (.invokestatic 48, 3) := by decide +kernel
theorem dX6_ifHeld_25 : decode cX6_ifHeld 25 = .ok (.ifCond .eq 7, 3) := by decide +kernel
theorem dX6_ifHeld_28 : decode cX6_ifHeld 28 = .ok (.iconst 0, 1) := by decide +kernel
theorem dX6_ifHeld_29 : decode cX6_ifHeld 29 = .ok (.goto 4, 3) := by decide +kernel
theorem dX6_ifHeld_32 : decode cX6_ifHeld 32 = .ok (.iconst 2, 1) := by decide +kernel
theorem dX6_ifHeld_33 : decode cX6_ifHeld 33 = .ok (.invokevirtual 120, 3) := by decide +kernel
theorem dX6_ifHeld_36 : decode cX6_ifHeld 36 = .ok (.ifCond .eq 5, 3) := by decide +kernel
theorem dX6_ifHeld_39 : decode cX6_ifHeld 39 = .ok (.iconst 0, 1) := by decide +kernel
theorem dX6_ifHeld_40 : decode cX6_ifHeld 40 = .ok (.ireturn, 1) := by decide +kernel
theorem dX6_ifHeld_41 : decode cX6_ifHeld 41 = .ok (.aload_n 0, 1) := by decide +kernel
theorem dX6_ifHeld_42 : decode cX6_ifHeld 42 = .ok (.getfield 13, 3) := by decide +kernel
theorem dX6_ifHeld_45 : decode cX6_ifHeld 45 = .ok (.iconst 0, 1) := by decide +kernel
theorem dX6_ifHeld_46 : decode cX6_ifHeld 46 = .ok (.aload_n 0, 1) := by decide +kernel
theorem dX6_ifHeld_47 : decode cX6_ifHeld 47 = .ok (.getfield 16, 3) := by decide +kernel
theorem dX6_ifHeld_50 : decode cX6_ifHeld 50 = .ok (.iconst 0, 1) := by decide +kernel
theorem dX6_ifHeld_51 : decode cX6_ifHeld 51 = .ok (.invokestatic 159, 3) := by decide +kernel
theorem dX6_ifHeld_54 : decode cX6_ifHeld 54 = .ok (.aload_n 0, 1) := by decide +kernel
theorem dX6_ifHeld_55 : decode cX6_ifHeld 55 = .ok (.getfield 16, 3) := by decide +kernel
theorem dX6_ifHeld_58 : decode cX6_ifHeld 58 = .ok (.iload_n 1, 1) := by decide +kernel
theorem dX6_ifHeld_59 : decode cX6_ifHeld 59 = .ok (.iload_n 2, 1) := by decide +kernel
theorem dX6_ifHeld_60 : decode cX6_ifHeld 60 = .ok (.iconst 2, 1) := by decide +kernel
theorem dX6_ifHeld_61 : decode cX6_ifHeld 61 = .ok (.irem, 1) := by decide +kernel
theorem dX6_ifHeld_62 : decode cX6_ifHeld 62 = .ok (.ifCond .ne 7, 3) := by decide +kernel
theorem dX6_ifHeld_65 : decode cX6_ifHeld 65 = .ok (.iconst 1, 1) := by decide +kernel
theorem dX6_ifHeld_66 : decode cX6_ifHeld 66 = .ok (.goto 4, 3) := by decide +kernel
theorem dX6_ifHeld_69 : decode cX6_ifHeld 69 = .ok (.iconst 0, 1) := by decide +kernel
theorem dX6_ifHeld_70 : decode cX6_ifHeld 70 = .ok (.invokestatic 145, 3) := by decide +kernel
theorem dX6_ifHeld_73 : decode cX6_ifHeld 73 = .ok (.pop, 1) := by decide +kernel
theorem dX6_ifHeld_74 : decode cX6_ifHeld 74 = .ok (.iload_n 2, 1) := by decide +kernel
theorem dX6_ifHeld_75 : decode cX6_ifHeld 75 = .ok (.iconst 2, 1) := by decide +kernel
theorem dX6_ifHeld_76 : decode cX6_ifHeld 76 = .ok (.if_icmp .ge 12, 3) := by decide +kernel
theorem dX6_ifHeld_79 : decode cX6_ifHeld 79 = .ok (.aload_n 0, 1) := by decide +kernel
theorem dX6_ifHeld_80 : decode cX6_ifHeld 80 = .ok (.getfield 16, 3) := by decide +kernel
theorem dX6_ifHeld_83 : decode cX6_ifHeld 83 = .ok (.iload_n 1, 1) := by decide +kernel
theorem dX6_ifHeld_84 : decode cX6_ifHeld 84 = .ok (.invokestatic 185, 3) := by decide +kernel
theorem dX6_ifHeld_87 : decode cX6_ifHeld 87 = .ok (.ireturn, 1) := by decide +kernel
theorem dX6_ifHeld_88 : decode cX6_ifHeld 88 = .ok (.aload_n 0, 1) := by decide +kernel
theorem dX6_ifHeld_89 : decode cX6_ifHeld 89 = .ok (.getfield 16, 3) := by decide +kernel
theorem dX6_ifHeld_92 : decode cX6_ifHeld 92 = .ok (.sipush 400, 3) := by decide +kernel
theorem dX6_ifHeld_95 : decode cX6_ifHeld 95 = .ok (.invokestatic 148, 3) := by decide +kernel
theorem dX6_ifHeld_98 : decode cX6_ifHeld 98 = .ok (.pop, 1) := by decide +kernel
theorem dX6_ifHeld_99 : decode cX6_ifHeld 99 = .ok (.aload_n 0, 1) := by decide +kernel
theorem dX6_ifHeld_100 : decode cX6_ifHeld 100 = .ok (.getfield 16, 3) := by decide +kernel
theorem dX6_ifHeld_103 : decode cX6_ifHeld 103 = .ok (.iload_n 1, 1) := by decide +kernel
theorem dX6_ifHeld_104 : decode cX6_ifHeld 104 = .ok (.iconst 3, 1) := by decide +kernel
theorem dX6_ifHeld_105 : decode cX6_ifHeld 105 = .ok (.invokestatic 54, 3) := by decide +kernel
theorem dX6_ifHeld_108 : decode cX6_ifHeld 108 = .ok (.aload_n 0, 1) := by decide +kernel
theorem dX6_ifHeld_109 : decode cX6_ifHeld 109 = .ok (.getfield 13, 3) := by decide +kernel
theorem dX6_ifHeld_112 : decode cX6_ifHeld 112 = .ok (.iload_n 1, 1) := by decide +kernel
theorem dX6_ifHeld_113 : decode cX6_ifHeld 113 = .ok (.iconst 3, 1) := by decide +kernel
theorem dX6_ifHeld_114 : decode cX6_ifHeld 114 = .ok (.invokestatic 54, 3) := by decide +kernel
theorem dX6_ifHeld_117 : decode cX6_ifHeld 117 = .ok (.isub, 1) := by decide +kernel
theorem dX6_ifHeld_118 : decode cX6_ifHeld 118 = .ok (.ireturn, 1) := by decide +kernel
theorem dX6_best_0 : decode cX6_best 0 = .ok (.aload_n 0, 1) := by decide +kernel
theorem dX6_best_1 : decode cX6_best 1 = .ok (.aload_n 0, 1) := by decide +kernel
theorem dX6_best_2 : decode cX6_best 2 = .ok (.getfield 13, 3) := by decide +kernel
theorem dX6_best_5 : decode cX6_best 5 = .ok (.iload_n 2, 1) := by decide +kernel
theorem dX6_best_6 : decode cX6_best 6 = .ok (.invokestatic 134, 3) := by decide +kernel
theorem dX6_best_9 : decode cX6_best 9 = .ok (.ifCond .ne 7, 3) := by decide +kernel
theorem dX6_best_12 : decode cX6_best 12 = .ok (.iconst 1, 1) := by decide +kernel
theorem dX6_best_13 : decode cX6_best 13 = .ok (.goto 20, 3) := by decide +kernel
theorem dX6_best_16 : decode cX6_best 16 = .ok (.iload_n 1, 1) := by decide +kernel
theorem dX6_best_17 : decode cX6_best 17 = .ok (.i2l, 1) := by decide +kernel
theorem dX6_best_18 : decode cX6_best 18 = .ok (.lconst 1, 1) := by decide +kernel
theorem dX6_best_19 : decode cX6_best 19 = .ok (.ldc2_w 170, 3) := by decide +kernel
theorem dX6_best_22 : decode cX6_best 22 = .ok (.invokestatic 48, 3) := by decide +kernel
theorem dX6_best_25 : decode cX6_best 25 = .ok (.ifCond .eq 7, 3) := by decide +kernel
theorem dX6_best_28 : decode cX6_best 28 = .ok (.iconst 0, 1) := by decide +kernel
theorem dX6_best_29 : decode cX6_best 29 = .ok (.goto 4, 3) := by decide +kernel
theorem dX6_best_32 : decode cX6_best 32 = .ok (.iconst 2, 1) := by decide +kernel
theorem dX6_best_33 : decode cX6_best 33 = .ok (.invokevirtual 120, 3) := by decide +kernel
theorem dX6_best_36 : decode cX6_best 36 = .ok (.ifCond .eq 5, 3) := by decide +kernel
theorem dX6_best_39 : decode cX6_best 39 = .ok (.iconst 0, 1) := by decide +kernel
theorem dX6_best_40 : decode cX6_best 40 = .ok (.ireturn, 1) := by decide +kernel
theorem dX6_best_41 : decode cX6_best 41 = .ok (.iconst (-1), 1) := by decide +kernel
theorem dX6_best_42 : decode cX6_best 42 = .ok (.istore_n 3, 1) := by decide +kernel
theorem dX6_best_43 : decode cX6_best 43 = .ok (.iconst 0, 1) := by decide +kernel
theorem dX6_best_44 : decode cX6_best 44 = .ok (.istore 4, 2) := by decide +kernel
theorem dX6_best_46 : decode cX6_best 46 = .ok (.iconst 0, 1) := by decide +kernel
theorem dX6_best_47 : decode cX6_best 47 = .ok (.istore 5, 2) := by decide +kernel
theorem dX6_best_49 : decode cX6_best 49 = .ok (.iload 5, 2) := by decide +kernel
theorem dX6_best_51 : decode cX6_best 51 = .ok (.bipush 99, 2) := by decide +kernel
theorem dX6_best_53 : decode cX6_best 53 = .ok (.if_icmp .gt 102, 3) := by decide +kernel
theorem dX6_best_56 : decode cX6_best 56 = .ok (.iload_n 1, 1) := by decide +kernel
theorem dX6_best_57 : decode cX6_best 57 = .ok (.iload 5, 2) := by decide +kernel
theorem dX6_best_59 : decode cX6_best 59 = .ok (.invokestatic 181, 3) := by decide +kernel
theorem dX6_best_62 : decode cX6_best 62 = .ok (.ifCond .eq 87, 3) := by decide +kernel
theorem dX6_best_65 : decode cX6_best 65 = .ok (.aload_n 0, 1) := by decide +kernel
theorem dX6_best_66 : decode cX6_best 66 = .ok (.getfield 13, 3) := by decide +kernel
theorem dX6_best_69 : decode cX6_best 69 = .ok (.iconst 0, 1) := by decide +kernel
theorem dX6_best_70 : decode cX6_best 70 = .ok (.aload_n 0, 1) := by decide +kernel
theorem dX6_best_71 : decode cX6_best 71 = .ok (.getfield 16, 3) := by decide +kernel
theorem dX6_best_74 : decode cX6_best 74 = .ok (.iconst 0, 1) := by decide +kernel
theorem dX6_best_75 : decode cX6_best 75 = .ok (.invokestatic 159, 3) := by decide +kernel
theorem dX6_best_78 : decode cX6_best 78 = .ok (.aload_n 0, 1) := by decide +kernel
theorem dX6_best_79 : decode cX6_best 79 = .ok (.getfield 16, 3) := by decide +kernel
theorem dX6_best_82 : decode cX6_best 82 = .ok (.iconst 3, 1) := by decide +kernel
theorem dX6_best_83 : decode cX6_best 83 = .ok (.iload_n 1, 1) := by decide +kernel
theorem dX6_best_84 : decode cX6_best 84 = .ok (.iadd, 1) := by decide +kernel
theorem dX6_best_85 : decode cX6_best 85 = .ok (.iload 5, 2) := by decide +kernel
theorem dX6_best_87 : decode cX6_best 87 = .ok (.iastore, 1) := by decide +kernel
theorem dX6_best_88 : decode cX6_best 88 = .ok (.aload_n 0, 1) := by decide +kernel
theorem dX6_best_89 : decode cX6_best 89 = .ok (.getfield 16, 3) := by decide +kernel
theorem dX6_best_92 : decode cX6_best 92 = .ok (.iload_n 2, 1) := by decide +kernel
theorem dX6_best_93 : decode cX6_best 93 = .ok (.invokestatic 185, 3) := by decide +kernel
theorem dX6_best_96 : decode cX6_best 96 = .ok (.istore 6, 2) := by decide +kernel
theorem dX6_best_98 : decode cX6_best 98 = .ok (.iload 6, 2) := by decide +kernel
theorem dX6_best_100 : decode cX6_best 100 = .ok (.iconst (-1), 1) := by decide +kernel
theorem dX6_best_101 : decode cX6_best 101 = .ok (.if_icmp .eq 19, 3) := by decide +kernel
theorem dX6_best_104 : decode cX6_best 104 = .ok (.iload_n 3, 1) := by decide +kernel
theorem dX6_best_105 : decode cX6_best 105 = .ok (.iconst (-1), 1) := by decide +kernel
theorem dX6_best_106 : decode cX6_best 106 = .ok (.if_icmp .eq 10, 3) := by decide +kernel
theorem dX6_best_109 : decode cX6_best 109 = .ok (.iload 6, 2) := by decide +kernel
theorem dX6_best_111 : decode cX6_best 111 = .ok (.iload 4, 2) := by decide +kernel
theorem dX6_best_113 : decode cX6_best 113 = .ok (.if_icmp .ge 7, 3) := by decide +kernel
theorem dX6_best_116 : decode cX6_best 116 = .ok (.iconst 1, 1) := by decide +kernel
theorem dX6_best_117 : decode cX6_best 117 = .ok (.goto 4, 3) := by decide +kernel
theorem dX6_best_120 : decode cX6_best 120 = .ok (.iconst 0, 1) := by decide +kernel
theorem dX6_best_121 : decode cX6_best 121 = .ok (.istore 7, 2) := by decide +kernel
theorem dX6_best_123 : decode cX6_best 123 = .ok (.iload 7, 2) := by decide +kernel
theorem dX6_best_125 : decode cX6_best 125 = .ok (.ifCond .eq 8, 3) := by decide +kernel
theorem dX6_best_128 : decode cX6_best 128 = .ok (.iload 5, 2) := by decide +kernel
theorem dX6_best_130 : decode cX6_best 130 = .ok (.goto 4, 3) := by decide +kernel
theorem dX6_best_133 : decode cX6_best 133 = .ok (.iload_n 3, 1) := by decide +kernel
theorem dX6_best_134 : decode cX6_best 134 = .ok (.istore_n 3, 1) := by decide +kernel
theorem dX6_best_135 : decode cX6_best 135 = .ok (.iload 7, 2) := by decide +kernel
theorem dX6_best_137 : decode cX6_best 137 = .ok (.ifCond .eq 8, 3) := by decide +kernel
theorem dX6_best_140 : decode cX6_best 140 = .ok (.iload 6, 2) := by decide +kernel
theorem dX6_best_142 : decode cX6_best 142 = .ok (.goto 5, 3) := by decide +kernel
theorem dX6_best_145 : decode cX6_best 145 = .ok (.iload 4, 2) := by decide +kernel
theorem dX6_best_147 : decode cX6_best 147 = .ok (.istore 4, 2) := by decide +kernel
theorem dX6_best_149 : decode cX6_best 149 = .ok (.iinc 5 1, 3) := by decide +kernel
theorem dX6_best_152 : decode cX6_best 152 = .ok (.goto (-103), 3) := by decide +kernel
theorem dX6_best_155 : decode cX6_best 155 = .ok (.iload_n 3, 1) := by decide +kernel
theorem dX6_best_156 : decode cX6_best 156 = .ok (.ireturn, 1) := by decide +kernel
theorem dX6_isDoneIn_0 : decode cX6_isDoneIn 0 = .ok (.aload_n 0, 1) := by decide +kernel
theorem dX6_isDoneIn_1 : decode cX6_isDoneIn 1 = .ok (.getfield 16, 3) := by decide +kernel
theorem dX6_isDoneIn_4 : decode cX6_isDoneIn 4 = .ok (.iconst 0, 1) := by decide +kernel
theorem dX6_isDoneIn_5 : decode cX6_isDoneIn 5 = .ok (.aload_n 0, 1) := by decide +kernel
theorem dX6_isDoneIn_6 : decode cX6_isDoneIn 6 = .ok (.getfield 19, 3) := by decide +kernel
theorem dX6_isDoneIn_9 : decode cX6_isDoneIn 9 = .ok (.iconst 0, 1) := by decide +kernel
theorem dX6_isDoneIn_10 : decode cX6_isDoneIn 10 = .ok (.invokestatic 159, 3) := by decide +kernel
theorem dX6_isDoneIn_13 : decode cX6_isDoneIn 13 = .ok (.aload_n 0, 1) := by decide +kernel
theorem dX6_isDoneIn_14 : decode cX6_isDoneIn 14 = .ok (.getfield 19, 3) := by decide +kernel
theorem dX6_isDoneIn_17 : decode cX6_isDoneIn 17 = .ok (.iload_n 1, 1) := by decide +kernel
theorem dX6_isDoneIn_18 : decode cX6_isDoneIn 18 = .ok (.invokestatic 185, 3) := by decide +kernel
theorem dX6_isDoneIn_21 : decode cX6_isDoneIn 21 = .ok (.istore_n 3, 1) := by decide +kernel
theorem dX6_isDoneIn_22 : decode cX6_isDoneIn 22 = .ok (.iload_n 3, 1) := by decide +kernel
theorem dX6_isDoneIn_23 : decode cX6_isDoneIn 23 = .ok (.iconst (-1), 1) := by decide +kernel
theorem dX6_isDoneIn_24 : decode cX6_isDoneIn 24 = .ok (.if_icmp .eq 12, 3) := by decide +kernel
theorem dX6_isDoneIn_27 : decode cX6_isDoneIn 27 = .ok (.iload_n 3, 1) := by decide +kernel
theorem dX6_isDoneIn_28 : decode cX6_isDoneIn 28 = .ok (.iload_n 2, 1) := by decide +kernel
theorem dX6_isDoneIn_29 : decode cX6_isDoneIn 29 = .ok (.if_icmp .gt 7, 3) := by decide +kernel
theorem dX6_isDoneIn_32 : decode cX6_isDoneIn 32 = .ok (.iconst 1, 1) := by decide +kernel
theorem dX6_isDoneIn_33 : decode cX6_isDoneIn 33 = .ok (.goto 4, 3) := by decide +kernel
theorem dX6_isDoneIn_36 : decode cX6_isDoneIn 36 = .ok (.iconst 0, 1) := by decide +kernel
theorem dX6_isDoneIn_37 : decode cX6_isDoneIn 37 = .ok (.ireturn, 1) := by decide +kernel
theorem dX6_mayTick_0 : decode cX6_mayTick 0 = .ok (.iload_n 1, 1) := by decide +kernel
theorem dX6_mayTick_1 : decode cX6_mayTick 1 = .ok (.i2l, 1) := by decide +kernel
theorem dX6_mayTick_2 : decode cX6_mayTick 2 = .ok (.lconst 1, 1) := by decide +kernel
theorem dX6_mayTick_3 : decode cX6_mayTick 3 = .ok (.ldc2_w 107, 3) := by decide +kernel
theorem dX6_mayTick_6 : decode cX6_mayTick 6 = .ok (.invokestatic 48, 3) := by decide +kernel
theorem dX6_mayTick_9 : decode cX6_mayTick 9 = .ok (.ifCond .eq 20, 3) := by decide +kernel
theorem dX6_mayTick_12 : decode cX6_mayTick 12 = .ok (.aload_n 0, 1) := by decide +kernel
theorem dX6_mayTick_13 : decode cX6_mayTick 13 = .ok (.getfield 16, 3) := by decide +kernel
theorem dX6_mayTick_16 : decode cX6_mayTick 16 = .ok (.iconst 1, 1) := by decide +kernel
theorem dX6_mayTick_17 : decode cX6_mayTick 17 = .ok (.iaload, 1) := by decide +kernel
theorem dX6_mayTick_18 : decode cX6_mayTick 18 = .ok (.iload_n 1, 1) := by decide +kernel
theorem dX6_mayTick_19 : decode cX6_mayTick 19 = .ok (.iadd, 1) := by decide +kernel
theorem dX6_mayTick_20 : decode cX6_mayTick 20 = .ok (.ldc 180, 2) := by decide +kernel
theorem dX6_mayTick_22 : decode cX6_mayTick 22 = .ok (.if_icmp .gt 7, 3) := by decide +kernel
theorem dX6_mayTick_25 : decode cX6_mayTick 25 = .ok (.iconst 1, 1) := by decide +kernel
theorem dX6_mayTick_26 : decode cX6_mayTick 26 = .ok (.goto 4, 3) := by decide +kernel
theorem dX6_mayTick_29 : decode cX6_mayTick 29 = .ok (.iconst 0, 1) := by decide +kernel
theorem dX6_mayTick_30 : decode cX6_mayTick 30 = .ok (.ireturn, 1) := by decide +kernel
theorem dX6_command_0 : decode cX6_command 0 = .ok (.iload_n 2, 1) := by decide +kernel
theorem dX6_command_1 : decode cX6_command 1 = .ok (.sipush 1000, 3) := by decide +kernel
theorem dX6_command_4 : decode cX6_command 4 = .ok (.idiv, 1) := by decide +kernel
theorem dX6_command_5 : decode cX6_command 5 = .ok (.istore_n 3, 1) := by decide +kernel
theorem dX6_command_6 : decode cX6_command 6 = .ok (.iload_n 2, 1) := by decide +kernel
theorem dX6_command_7 : decode cX6_command 7 = .ok (.sipush 1000, 3) := by decide +kernel
theorem dX6_command_10 : decode cX6_command 10 = .ok (.irem, 1) := by decide +kernel
theorem dX6_command_11 : decode cX6_command 11 = .ok (.istore 4, 2) := by decide +kernel
theorem dX6_command_13 : decode cX6_command 13 = .ok (.aload_n 0, 1) := by decide +kernel
theorem dX6_command_14 : decode cX6_command 14 = .ok (.getfield 16, 3) := by decide +kernel
theorem dX6_command_17 : decode cX6_command 17 = .ok (.iload_n 3, 1) := by decide +kernel
theorem dX6_command_18 : decode cX6_command 18 = .ok (.invokestatic 134, 3) := by decide +kernel
theorem dX6_command_21 : decode cX6_command 21 = .ok (.istore 5, 2) := by decide +kernel
theorem dX6_command_23 : decode cX6_command 23 = .ok (.iload_n 1, 1) := by decide +kernel
theorem dX6_command_24 : decode cX6_command 24 = .ok (.tableswitch 323 1 9 #[52, 97, 122, 161, 189, 219, 252, 277, 298], 52) := by decide +kernel
theorem dX6_command_76 : decode cX6_command 76 = .ok (.iload 5, 2) := by decide +kernel
theorem dX6_command_78 : decode cX6_command 78 = .ok (.ifCond .eq 41, 3) := by decide +kernel
theorem dX6_command_81 : decode cX6_command 81 = .ok (.iload 4, 2) := by decide +kernel
theorem dX6_command_83 : decode cX6_command 83 = .ok (.invokestatic 177, 3) := by decide +kernel
theorem dX6_command_86 : decode cX6_command 86 = .ok (.ifCond .eq 33, 3) := by decide +kernel
theorem dX6_command_89 : decode cX6_command 89 = .ok (.aload_n 0, 1) := by decide +kernel
theorem dX6_command_90 : decode cX6_command 90 = .ok (.getfield 16, 3) := by decide +kernel
theorem dX6_command_93 : decode cX6_command 93 = .ok (.iload_n 3, 1) := by decide +kernel
theorem dX6_command_94 : decode cX6_command 94 = .ok (.iload 4, 2) := by decide +kernel
theorem dX6_command_96 : decode cX6_command 96 = .ok (.invokestatic 82, 3) := by decide +kernel
theorem dX6_command_99 : decode cX6_command 99 = .ok (.ifCond .eq 20, 3) := by decide +kernel
theorem dX6_command_102 : decode cX6_command 102 = .ok (.aload_n 0, 1) := by decide +kernel
theorem dX6_command_103 : decode cX6_command 103 = .ok (.getfield 16, 3) := by decide +kernel
theorem dX6_command_106 : decode cX6_command 106 = .ok (.iload_n 3, 1) := by decide +kernel
theorem dX6_command_107 : decode cX6_command 107 = .ok (.iload 4, 2) := by decide +kernel
theorem dX6_command_109 : decode cX6_command 109 = .ok (.invokestatic 86, 3) := by decide +kernel
theorem dX6_command_112 : decode cX6_command 112 = .ok (.ifCond .lt 7, 3) := by decide +kernel
theorem dX6_command_115 : decode cX6_command 115 = .ok (.iconst 1, 1) := by decide +kernel
theorem dX6_command_116 : decode cX6_command 116 = .ok (.goto 4, 3) := by decide +kernel
theorem dX6_command_119 : decode cX6_command 119 = .ok (.iconst 0, 1) := by decide +kernel
theorem dX6_command_120 : decode cX6_command 120 = .ok (.ireturn, 1) := by decide +kernel
theorem dX6_command_121 : decode cX6_command 121 = .ok (.aload_n 0, 1) := by decide +kernel
theorem dX6_command_122 : decode cX6_command 122 = .ok (.iload_n 2, 1) := by decide +kernel
theorem dX6_command_123 : decode cX6_command 123 = .ok (.invokevirtual 188, 3) := by decide +kernel
theorem dX6_command_126 : decode cX6_command 126 = .ok (.ifCond .eq 18, 3) := by decide +kernel
theorem dX6_command_129 : decode cX6_command 129 = .ok (.aload_n 0, 1) := by decide +kernel
theorem dX6_command_130 : decode cX6_command 130 = .ok (.getfield 16, 3) := by decide +kernel
theorem dX6_command_133 : decode cX6_command 133 = .ok (.iload_n 2, 1) := by decide +kernel
theorem dX6_command_134 : decode cX6_command 134 = .ok (.invokestatic 148, 3) := by decide +kernel
theorem dX6_command_137 : decode cX6_command 137 = .ok (.ifCond .lt 7, 3) := by decide +kernel
theorem dX6_command_140 : decode cX6_command 140 = .ok (.iconst 1, 1) := by decide +kernel
theorem dX6_command_141 : decode cX6_command 141 = .ok (.goto 4, 3) := by decide +kernel
theorem dX6_command_144 : decode cX6_command 144 = .ok (.iconst 0, 1) := by decide +kernel
theorem dX6_command_145 : decode cX6_command 145 = .ok (.ireturn, 1) := by decide +kernel
theorem dX6_command_146 : decode cX6_command 146 = .ok (.iload 5, 2) := by decide +kernel
theorem dX6_command_148 : decode cX6_command 148 = .ok (.ifCond .eq 35, 3) := by decide +kernel
theorem dX6_command_151 : decode cX6_command 151 = .ok (.iload 4, 2) := by decide +kernel
theorem dX6_command_153 : decode cX6_command 153 = .ok (.iconst 2, 1) := by decide +kernel
theorem dX6_command_154 : decode cX6_command 154 = .ok (.if_icmp .ge 29, 3) := by decide +kernel
theorem dX6_command_157 : decode cX6_command 157 = .ok (.aload_n 0, 1) := by decide +kernel
theorem dX6_command_158 : decode cX6_command 158 = .ok (.getfield 16, 3) := by decide +kernel
theorem dX6_command_161 : decode cX6_command 161 = .ok (.iload_n 3, 1) := by decide +kernel
theorem dX6_command_162 : decode cX6_command 162 = .ok (.iload 4, 2) := by decide +kernel
theorem dX6_command_164 : decode cX6_command 164 = .ok (.iconst 1, 1) := by decide +kernel
theorem dX6_command_165 : decode cX6_command 165 = .ok (.if_icmp .ne 7, 3) := by decide +kernel
theorem dX6_command_168 : decode cX6_command 168 = .ok (.iconst 1, 1) := by decide +kernel
theorem dX6_command_169 : decode cX6_command 169 = .ok (.goto 4, 3) := by decide +kernel
theorem dX6_command_172 : decode cX6_command 172 = .ok (.iconst 0, 1) := by decide +kernel
theorem dX6_command_173 : decode cX6_command 173 = .ok (.invokestatic 145, 3) := by decide +kernel
theorem dX6_command_176 : decode cX6_command 176 = .ok (.ifCond .lt 7, 3) := by decide +kernel
theorem dX6_command_179 : decode cX6_command 179 = .ok (.iconst 1, 1) := by decide +kernel
theorem dX6_command_180 : decode cX6_command 180 = .ok (.goto 4, 3) := by decide +kernel
theorem dX6_command_183 : decode cX6_command 183 = .ok (.iconst 0, 1) := by decide +kernel
theorem dX6_command_184 : decode cX6_command 184 = .ok (.ireturn, 1) := by decide +kernel
theorem dX6_command_185 : decode cX6_command 185 = .ok (.iload 5, 2) := by decide +kernel
theorem dX6_command_187 : decode cX6_command 187 = .ok (.ifCond .eq 24, 3) := by decide +kernel
theorem dX6_command_190 : decode cX6_command 190 = .ok (.iload 4, 2) := by decide +kernel
theorem dX6_command_192 : decode cX6_command 192 = .ok (.ifCond .ne 19, 3) := by decide +kernel
theorem dX6_command_195 : decode cX6_command 195 = .ok (.aload_n 0, 1) := by decide +kernel
theorem dX6_command_196 : decode cX6_command 196 = .ok (.getfield 16, 3) := by decide +kernel
theorem dX6_command_199 : decode cX6_command 199 = .ok (.iload_n 3, 1) := by decide +kernel
theorem dX6_command_200 : decode cX6_command 200 = .ok (.iconst 0, 1) := by decide +kernel
theorem dX6_command_201 : decode cX6_command 201 = .ok (.invokestatic 62, 3) := by decide +kernel
theorem dX6_command_204 : decode cX6_command 204 = .ok (.ifCond .lt 7, 3) := by decide +kernel
theorem dX6_command_207 : decode cX6_command 207 = .ok (.iconst 1, 1) := by decide +kernel
theorem dX6_command_208 : decode cX6_command 208 = .ok (.goto 4, 3) := by decide +kernel
theorem dX6_command_211 : decode cX6_command 211 = .ok (.iconst 0, 1) := by decide +kernel
theorem dX6_command_212 : decode cX6_command 212 = .ok (.ireturn, 1) := by decide +kernel
theorem dX6_command_213 : decode cX6_command 213 = .ok (.iload 4, 2) := by decide +kernel
theorem dX6_command_215 : decode cX6_command 215 = .ok (.bipush 99, 2) := by decide +kernel
theorem dX6_command_217 : decode cX6_command 217 = .ok (.if_icmp .gt 12, 3) := by decide +kernel
theorem dX6_command_220 : decode cX6_command 220 = .ok (.iload_n 3, 1) := by decide +kernel
theorem dX6_command_221 : decode cX6_command 221 = .ok (.iload 4, 2) := by decide +kernel
theorem dX6_command_223 : decode cX6_command 223 = .ok (.invokestatic 181, 3) := by decide +kernel
theorem dX6_command_226 : decode cX6_command 226 = .ok (.ifCond .ne 5, 3) := by decide +kernel
theorem dX6_command_229 : decode cX6_command 229 = .ok (.iconst 0, 1) := by decide +kernel
theorem dX6_command_230 : decode cX6_command 230 = .ok (.ireturn, 1) := by decide +kernel
theorem dX6_command_231 : decode cX6_command 231 = .ok (.aload_n 0, 1) := by decide +kernel
theorem dX6_command_232 : decode cX6_command 232 = .ok (.getfield 16, 3) := by decide +kernel
theorem dX6_command_235 : decode cX6_command 235 = .ok (.iconst 3, 1) := by decide +kernel
theorem dX6_command_236 : decode cX6_command 236 = .ok (.iload_n 3, 1) := by decide +kernel
theorem dX6_command_237 : decode cX6_command 237 = .ok (.iadd, 1) := by decide +kernel
theorem dX6_command_238 : decode cX6_command 238 = .ok (.iload 4, 2) := by decide +kernel
theorem dX6_command_240 : decode cX6_command 240 = .ok (.iastore, 1) := by decide +kernel
theorem dX6_command_241 : decode cX6_command 241 = .ok (.iconst 1, 1) := by decide +kernel
theorem dX6_command_242 : decode cX6_command 242 = .ok (.ireturn, 1) := by decide +kernel
theorem dX6_command_243 : decode cX6_command 243 = .ok (.iload 5, 2) := by decide +kernel
theorem dX6_command_245 : decode cX6_command 245 = .ok (.ifCond .eq 29, 3) := by decide +kernel
theorem dX6_command_248 : decode cX6_command 248 = .ok (.iload 4, 2) := by decide +kernel
theorem dX6_command_250 : decode cX6_command 250 = .ok (.bipush 100, 2) := by decide +kernel
theorem dX6_command_252 : decode cX6_command 252 = .ok (.if_icmp .ge 22, 3) := by decide +kernel
theorem dX6_command_255 : decode cX6_command 255 = .ok (.aload_n 0, 1) := by decide +kernel
theorem dX6_command_256 : decode cX6_command 256 = .ok (.getfield 16, 3) := by decide +kernel
theorem dX6_command_259 : decode cX6_command 259 = .ok (.iload_n 3, 1) := by decide +kernel
theorem dX6_command_260 : decode cX6_command 260 = .ok (.bipush 6, 2) := by decide +kernel
theorem dX6_command_262 : decode cX6_command 262 = .ok (.invokestatic 54, 3) := by decide +kernel
theorem dX6_command_265 : decode cX6_command 265 = .ok (.iload 4, 2) := by decide +kernel
theorem dX6_command_267 : decode cX6_command 267 = .ok (.if_icmp .gt 7, 3) := by decide +kernel
theorem dX6_command_270 : decode cX6_command 270 = .ok (.iconst 1, 1) := by decide +kernel
theorem dX6_command_271 : decode cX6_command 271 = .ok (.goto 4, 3) := by decide +kernel
theorem dX6_command_274 : decode cX6_command 274 = .ok (.iconst 0, 1) := by decide +kernel
theorem dX6_command_275 : decode cX6_command 275 = .ok (.ireturn, 1) := by decide +kernel
theorem dX6_command_276 : decode cX6_command 276 = .ok (.iload 5, 2) := by decide +kernel
theorem dX6_command_278 : decode cX6_command 278 = .ok (.ifCond .eq 21, 3) := by decide +kernel
theorem dX6_command_281 : decode cX6_command 281 = .ok (.aload_n 0, 1) := by decide +kernel
theorem dX6_command_282 : decode cX6_command 282 = .ok (.getfield 16, 3) := by decide +kernel
theorem dX6_command_285 : decode cX6_command 285 = .ok (.iload_n 3, 1) := by decide +kernel
theorem dX6_command_286 : decode cX6_command 286 = .ok (.iconst 0, 1) := by decide +kernel
theorem dX6_command_287 : decode cX6_command 287 = .ok (.invokestatic 54, 3) := by decide +kernel
theorem dX6_command_290 : decode cX6_command 290 = .ok (.iload 4, 2) := by decide +kernel
theorem dX6_command_292 : decode cX6_command 292 = .ok (.if_icmp .gt 7, 3) := by decide +kernel
theorem dX6_command_295 : decode cX6_command 295 = .ok (.iconst 1, 1) := by decide +kernel
theorem dX6_command_296 : decode cX6_command 296 = .ok (.goto 4, 3) := by decide +kernel
theorem dX6_command_299 : decode cX6_command 299 = .ok (.iconst 0, 1) := by decide +kernel
theorem dX6_command_300 : decode cX6_command 300 = .ok (.ireturn, 1) := by decide +kernel
theorem dX6_command_301 : decode cX6_command 301 = .ok (.iload 5, 2) := by decide +kernel
theorem dX6_command_303 : decode cX6_command 303 = .ok (.ifCond .eq 17, 3) := by decide +kernel
theorem dX6_command_306 : decode cX6_command 306 = .ok (.aload_n 0, 1) := by decide +kernel
theorem dX6_command_307 : decode cX6_command 307 = .ok (.iload_n 3, 1) := by decide +kernel
theorem dX6_command_308 : decode cX6_command 308 = .ok (.iload 4, 2) := by decide +kernel
theorem dX6_command_310 : decode cX6_command 310 = .ok (.invokevirtual 191, 3) := by decide +kernel
theorem dX6_command_313 : decode cX6_command 313 = .ok (.ifCond .eq 7, 3) := by decide +kernel
theorem dX6_command_316 : decode cX6_command 316 = .ok (.iconst 1, 1) := by decide +kernel
theorem dX6_command_317 : decode cX6_command 317 = .ok (.goto 4, 3) := by decide +kernel
theorem dX6_command_320 : decode cX6_command 320 = .ok (.iconst 0, 1) := by decide +kernel
theorem dX6_command_321 : decode cX6_command 321 = .ok (.ireturn, 1) := by decide +kernel
theorem dX6_command_322 : decode cX6_command 322 = .ok (.iload_n 2, 1) := by decide +kernel
theorem dX6_command_323 : decode cX6_command 323 = .ok (.bipush 100, 2) := by decide +kernel
theorem dX6_command_325 : decode cX6_command 325 = .ok (.if_icmp .ge 20, 3) := by decide +kernel
theorem dX6_command_328 : decode cX6_command 328 = .ok (.aload_n 0, 1) := by decide +kernel
theorem dX6_command_329 : decode cX6_command 329 = .ok (.getfield 16, 3) := by decide +kernel
theorem dX6_command_332 : decode cX6_command 332 = .ok (.bipush 12, 2) := by decide +kernel
theorem dX6_command_334 : decode cX6_command 334 = .ok (.invokestatic 95, 3) := by decide +kernel
theorem dX6_command_337 : decode cX6_command 337 = .ok (.iload_n 2, 1) := by decide +kernel
theorem dX6_command_338 : decode cX6_command 338 = .ok (.if_icmp .gt 7, 3) := by decide +kernel
theorem dX6_command_341 : decode cX6_command 341 = .ok (.iconst 1, 1) := by decide +kernel
theorem dX6_command_342 : decode cX6_command 342 = .ok (.goto 4, 3) := by decide +kernel
theorem dX6_command_345 : decode cX6_command 345 = .ok (.iconst 0, 1) := by decide +kernel
theorem dX6_command_346 : decode cX6_command 346 = .ok (.ireturn, 1) := by decide +kernel
theorem dX6_command_347 : decode cX6_command 347 = .ok (.iconst 0, 1) := by decide +kernel
theorem dX6_command_348 : decode cX6_command 348 = .ok (.ireturn, 1) := by decide +kernel
theorem dX6_runScript_0 : decode cX6_runScript 0 = .ok (.lconst 1, 1) := by decide +kernel
theorem dX6_runScript_1 : decode cX6_runScript 1 = .ok (.lstore 4, 2) := by decide +kernel
theorem dX6_runScript_3 : decode cX6_runScript 3 = .ok (.iconst 0, 1) := by decide +kernel
theorem dX6_runScript_4 : decode cX6_runScript 4 = .ok (.istore 6, 2) := by decide +kernel
theorem dX6_runScript_6 : decode cX6_runScript 6 = .ok (.iload 6, 2) := by decide +kernel
theorem dX6_runScript_8 : decode cX6_runScript 8 = .ok (.iload_n 1, 1) := by decide +kernel
theorem dX6_runScript_9 : decode cX6_runScript 9 = .ok (.if_icmp .ge 23, 3) := by decide +kernel
theorem dX6_runScript_12 : decode cX6_runScript 12 = .ok (.iload 6, 2) := by decide +kernel
theorem dX6_runScript_14 : decode cX6_runScript 14 = .ok (.iconst 3, 1) := by decide +kernel
theorem dX6_runScript_15 : decode cX6_runScript 15 = .ok (.if_icmp .ge 17, 3) := by decide +kernel
theorem dX6_runScript_18 : decode cX6_runScript 18 = .ok (.lload 4, 2) := by decide +kernel
theorem dX6_runScript_20 : decode cX6_runScript 20 = .ok (.ldc2_w 194, 3) := by decide +kernel
theorem dX6_runScript_23 : decode cX6_runScript 23 = .ok (.lmul, 1) := by decide +kernel
theorem dX6_runScript_24 : decode cX6_runScript 24 = .ok (.lstore 4, 2) := by decide +kernel
theorem dX6_runScript_26 : decode cX6_runScript 26 = .ok (.iinc 6 1, 3) := by decide +kernel
theorem dX6_runScript_29 : decode cX6_runScript 29 = .ok (.goto (-23), 3) := by decide +kernel
theorem dX6_runScript_32 : decode cX6_runScript 32 = .ok (.aload_n 0, 1) := by decide +kernel
theorem dX6_runScript_33 : decode cX6_runScript 33 = .ok (.iload_n 1, 1) := by decide +kernel
theorem dX6_runScript_34 : decode cX6_runScript 34 = .ok (.i2l, 1) := by decide +kernel
theorem dX6_runScript_35 : decode cX6_runScript 35 = .ok (.lconst 1, 1) := by decide +kernel
theorem dX6_runScript_36 : decode cX6_runScript 36 = .ok (.ldc2_w 172, 3) := by decide +kernel
theorem dX6_runScript_39 : decode cX6_runScript 39 = .ok (.invokestatic 48, 3) := by decide +kernel
theorem dX6_runScript_42 : decode cX6_runScript 42 = .ok (.ifCond .eq 19, 3) := by decide +kernel
theorem dX6_runScript_45 : decode cX6_runScript 45 = .ok (.lload_n 2, 1) := by decide +kernel
theorem dX6_runScript_46 : decode cX6_runScript 46 = .ok (.lconst 0, 1) := by decide +kernel
theorem dX6_runScript_47 : decode cX6_runScript 47 = .ok (.lload 4, 2) := by decide +kernel
theorem dX6_runScript_49 : decode cX6_runScript 49 = .ok (.lconst 1, 1) := by decide +kernel
theorem dX6_runScript_50 : decode cX6_runScript 50 = .ok (.lsub, 1) := by decide +kernel
theorem dX6_runScript_51 : decode cX6_runScript 51 = .ok (.invokestatic 48, 3) := by decide +kernel
theorem dX6_runScript_54 : decode cX6_runScript 54 = .ok (.ifCond .eq 7, 3) := by decide +kernel
theorem dX6_runScript_57 : decode cX6_runScript 57 = .ok (.iconst 0, 1) := by decide +kernel
theorem dX6_runScript_58 : decode cX6_runScript 58 = .ok (.goto 4, 3) := by decide +kernel
theorem dX6_runScript_61 : decode cX6_runScript 61 = .ok (.iconst 1, 1) := by decide +kernel
theorem dX6_runScript_62 : decode cX6_runScript 62 = .ok (.invokevirtual 120, 3) := by decide +kernel
theorem dX6_runScript_65 : decode cX6_runScript 65 = .ok (.ifCond .eq 5, 3) := by decide +kernel
theorem dX6_runScript_68 : decode cX6_runScript 68 = .ok (.iconst 0, 1) := by decide +kernel
theorem dX6_runScript_69 : decode cX6_runScript 69 = .ok (.ireturn, 1) := by decide +kernel
theorem dX6_runScript_70 : decode cX6_runScript 70 = .ok (.aload_n 0, 1) := by decide +kernel
theorem dX6_runScript_71 : decode cX6_runScript 71 = .ok (.getfield 13, 3) := by decide +kernel
theorem dX6_runScript_74 : decode cX6_runScript 74 = .ok (.iconst 0, 1) := by decide +kernel
theorem dX6_runScript_75 : decode cX6_runScript 75 = .ok (.aload_n 0, 1) := by decide +kernel
theorem dX6_runScript_76 : decode cX6_runScript 76 = .ok (.getfield 16, 3) := by decide +kernel
theorem dX6_runScript_79 : decode cX6_runScript 79 = .ok (.iconst 0, 1) := by decide +kernel
theorem dX6_runScript_80 : decode cX6_runScript 80 = .ok (.invokestatic 159, 3) := by decide +kernel
theorem dX6_runScript_83 : decode cX6_runScript 83 = .ok (.iconst 0, 1) := by decide +kernel
theorem dX6_runScript_84 : decode cX6_runScript 84 = .ok (.istore 6, 2) := by decide +kernel
theorem dX6_runScript_86 : decode cX6_runScript 86 = .ok (.iload 6, 2) := by decide +kernel
theorem dX6_runScript_88 : decode cX6_runScript 88 = .ok (.iload_n 1, 1) := by decide +kernel
theorem dX6_runScript_89 : decode cX6_runScript 89 = .ok (.if_icmp .ge 50, 3) := by decide +kernel
theorem dX6_runScript_92 : decode cX6_runScript 92 = .ok (.lload 4, 2) := by decide +kernel
theorem dX6_runScript_94 : decode cX6_runScript 94 = .ok (.ldc2_w 194, 3) := by decide +kernel
theorem dX6_runScript_97 : decode cX6_runScript 97 = .ok (.ldiv, 1) := by decide +kernel
theorem dX6_runScript_98 : decode cX6_runScript 98 = .ok (.lstore 4, 2) := by decide +kernel
theorem dX6_runScript_100 : decode cX6_runScript 100 = .ok (.lload_n 2, 1) := by decide +kernel
theorem dX6_runScript_101 : decode cX6_runScript 101 = .ok (.lload 4, 2) := by decide +kernel
theorem dX6_runScript_103 : decode cX6_runScript 103 = .ok (.ldiv, 1) := by decide +kernel
theorem dX6_runScript_104 : decode cX6_runScript 104 = .ok (.ldc2_w 194, 3) := by decide +kernel
theorem dX6_runScript_107 : decode cX6_runScript 107 = .ok (.lrem, 1) := by decide +kernel
theorem dX6_runScript_108 : decode cX6_runScript 108 = .ok (.l2i, 1) := by decide +kernel
theorem dX6_runScript_109 : decode cX6_runScript 109 = .ok (.istore 7, 2) := by decide +kernel
theorem dX6_runScript_111 : decode cX6_runScript 111 = .ok (.aload_n 0, 1) := by decide +kernel
theorem dX6_runScript_112 : decode cX6_runScript 112 = .ok (.iload 7, 2) := by decide +kernel
theorem dX6_runScript_114 : decode cX6_runScript 114 = .ok (.sipush 10000, 3) := by decide +kernel
theorem dX6_runScript_117 : decode cX6_runScript 117 = .ok (.idiv, 1) := by decide +kernel
theorem dX6_runScript_118 : decode cX6_runScript 118 = .ok (.iload 7, 2) := by decide +kernel
theorem dX6_runScript_120 : decode cX6_runScript 120 = .ok (.sipush 10000, 3) := by decide +kernel
theorem dX6_runScript_123 : decode cX6_runScript 123 = .ok (.irem, 1) := by decide +kernel
theorem dX6_runScript_124 : decode cX6_runScript 124 = .ok (.invokevirtual 196, 3) := by decide +kernel
theorem dX6_runScript_127 : decode cX6_runScript 127 = .ok (.ifCond .ne 6, 3) := by decide +kernel
theorem dX6_runScript_130 : decode cX6_runScript 130 = .ok (.iload 6, 2) := by decide +kernel
theorem dX6_runScript_132 : decode cX6_runScript 132 = .ok (.ireturn, 1) := by decide +kernel
theorem dX6_runScript_133 : decode cX6_runScript 133 = .ok (.iinc 6 1, 3) := by decide +kernel
theorem dX6_runScript_136 : decode cX6_runScript 136 = .ok (.goto (-50), 3) := by decide +kernel
theorem dX6_runScript_139 : decode cX6_runScript 139 = .ok (.iconst (-1), 1) := by decide +kernel
theorem dX6_runScript_140 : decode cX6_runScript 140 = .ok (.ireturn, 1) := by decide +kernel
theorem dX6_turn_0 : decode cX6_turn 0 = .ok (.iload_n 2, 1) := by decide +kernel
theorem dX6_turn_1 : decode cX6_turn 1 = .ok (.bipush 8, 2) := by decide +kernel
theorem dX6_turn_3 : decode cX6_turn 3 = .ok (.idiv, 1) := by decide +kernel
theorem dX6_turn_4 : decode cX6_turn 4 = .ok (.istore_n 3, 1) := by decide +kernel
theorem dX6_turn_5 : decode cX6_turn 5 = .ok (.iload_n 3, 1) := by decide +kernel
theorem dX6_turn_6 : decode cX6_turn 6 = .ok (.iconst 4, 1) := by decide +kernel
theorem dX6_turn_7 : decode cX6_turn 7 = .ok (.irem, 1) := by decide +kernel
theorem dX6_turn_8 : decode cX6_turn 8 = .ok (.istore 4, 2) := by decide +kernel
theorem dX6_turn_10 : decode cX6_turn 10 = .ok (.iload_n 2, 1) := by decide +kernel
theorem dX6_turn_11 : decode cX6_turn 11 = .ok (.bipush 8, 2) := by decide +kernel
theorem dX6_turn_13 : decode cX6_turn 13 = .ok (.irem, 1) := by decide +kernel
theorem dX6_turn_14 : decode cX6_turn 14 = .ok (.istore 5, 2) := by decide +kernel
theorem dX6_turn_16 : decode cX6_turn 16 = .ok (.iload 5, 2) := by decide +kernel
theorem dX6_turn_18 : decode cX6_turn 18 = .ok (.iconst 3, 1) := by decide +kernel
theorem dX6_turn_19 : decode cX6_turn 19 = .ok (.if_icmp .ge 47, 3) := by decide +kernel
theorem dX6_turn_22 : decode cX6_turn 22 = .ok (.aload_n 1, 1) := by decide +kernel
theorem dX6_turn_23 : decode cX6_turn 23 = .ok (.iload 4, 2) := by decide +kernel
theorem dX6_turn_25 : decode cX6_turn 25 = .ok (.invokestatic 134, 3) := by decide +kernel
theorem dX6_turn_28 : decode cX6_turn 28 = .ok (.ifCond .eq 181, 3) := by decide +kernel
theorem dX6_turn_31 : decode cX6_turn 31 = .ok (.aload_n 1, 1) := by decide +kernel
theorem dX6_turn_32 : decode cX6_turn 32 = .ok (.iload 4, 2) := by decide +kernel
theorem dX6_turn_34 : decode cX6_turn 34 = .ok (.iconst 1, 1) := by decide +kernel
theorem dX6_turn_35 : decode cX6_turn 35 = .ok (.iload_n 3, 1) := by decide +kernel
theorem dX6_turn_36 : decode cX6_turn 36 = .ok (.iconst 4, 1) := by decide +kernel
theorem dX6_turn_37 : decode cX6_turn 37 = .ok (.idiv, 1) := by decide +kernel
theorem dX6_turn_38 : decode cX6_turn 38 = .ok (.bipush 60, 2) := by decide +kernel
theorem dX6_turn_40 : decode cX6_turn 40 = .ok (.irem, 1) := by decide +kernel
theorem dX6_turn_41 : decode cX6_turn 41 = .ok (.iadd, 1) := by decide +kernel
theorem dX6_turn_42 : decode cX6_turn 42 = .ok (.invokestatic 82, 3) := by decide +kernel
theorem dX6_turn_45 : decode cX6_turn 45 = .ok (.ifCond .eq 164, 3) := by decide +kernel
theorem dX6_turn_48 : decode cX6_turn 48 = .ok (.aload_n 1, 1) := by decide +kernel
theorem dX6_turn_49 : decode cX6_turn 49 = .ok (.iload 4, 2) := by decide +kernel
theorem dX6_turn_51 : decode cX6_turn 51 = .ok (.iconst 1, 1) := by decide +kernel
theorem dX6_turn_52 : decode cX6_turn 52 = .ok (.iload_n 3, 1) := by decide +kernel
theorem dX6_turn_53 : decode cX6_turn 53 = .ok (.iconst 4, 1) := by decide +kernel
theorem dX6_turn_54 : decode cX6_turn 54 = .ok (.idiv, 1) := by decide +kernel
theorem dX6_turn_55 : decode cX6_turn 55 = .ok (.bipush 60, 2) := by decide +kernel
theorem dX6_turn_57 : decode cX6_turn 57 = .ok (.irem, 1) := by decide +kernel
theorem dX6_turn_58 : decode cX6_turn 58 = .ok (.iadd, 1) := by decide +kernel
theorem dX6_turn_59 : decode cX6_turn 59 = .ok (.invokestatic 86, 3) := by decide +kernel
theorem dX6_turn_62 : decode cX6_turn 62 = .ok (.pop, 1) := by decide +kernel
theorem dX6_turn_63 : decode cX6_turn 63 = .ok (.goto 146, 3) := by decide +kernel
theorem dX6_turn_66 : decode cX6_turn 66 = .ok (.iload 5, 2) := by decide +kernel
theorem dX6_turn_68 : decode cX6_turn 68 = .ok (.iconst 3, 1) := by decide +kernel
theorem dX6_turn_69 : decode cX6_turn 69 = .ok (.if_icmp .ne 48, 3) := by decide +kernel
theorem dX6_turn_72 : decode cX6_turn 72 = .ok (.aload_n 1, 1) := by decide +kernel
theorem dX6_turn_73 : decode cX6_turn 73 = .ok (.iload 4, 2) := by decide +kernel
theorem dX6_turn_75 : decode cX6_turn 75 = .ok (.invokestatic 134, 3) := by decide +kernel
theorem dX6_turn_78 : decode cX6_turn 78 = .ok (.ifCond .eq 131, 3) := by decide +kernel
theorem dX6_turn_81 : decode cX6_turn 81 = .ok (.aload_n 1, 1) := by decide +kernel
theorem dX6_turn_82 : decode cX6_turn 82 = .ok (.iconst 2, 1) := by decide +kernel
theorem dX6_turn_83 : decode cX6_turn 83 = .ok (.iaload, 1) := by decide +kernel
theorem dX6_turn_84 : decode cX6_turn 84 = .ok (.bipush 8, 2) := by decide +kernel
theorem dX6_turn_86 : decode cX6_turn 86 = .ok (.if_icmp .ge 123, 3) := by decide +kernel
theorem dX6_turn_89 : decode cX6_turn 89 = .ok (.aload_n 1, 1) := by decide +kernel
theorem dX6_turn_90 : decode cX6_turn 90 = .ok (.iconst 1, 1) := by decide +kernel
theorem dX6_turn_91 : decode cX6_turn 91 = .ok (.iload_n 3, 1) := by decide +kernel
theorem dX6_turn_92 : decode cX6_turn 92 = .ok (.iconst 4, 1) := by decide +kernel
theorem dX6_turn_93 : decode cX6_turn 93 = .ok (.idiv, 1) := by decide +kernel
theorem dX6_turn_94 : decode cX6_turn 94 = .ok (.bipush 30, 2) := by decide +kernel
theorem dX6_turn_96 : decode cX6_turn 96 = .ok (.irem, 1) := by decide +kernel
theorem dX6_turn_97 : decode cX6_turn 97 = .ok (.iadd, 1) := by decide +kernel
theorem dX6_turn_98 : decode cX6_turn 98 = .ok (.iload 4, 2) := by decide +kernel
theorem dX6_turn_100 : decode cX6_turn 100 = .ok (.iconst 1, 1) := by decide +kernel
theorem dX6_turn_101 : decode cX6_turn 101 = .ok (.iload_n 3, 1) := by decide +kernel
theorem dX6_turn_102 : decode cX6_turn 102 = .ok (.sipush 256, 3) := by decide +kernel
theorem dX6_turn_105 : decode cX6_turn 105 = .ok (.idiv, 1) := by decide +kernel
theorem dX6_turn_106 : decode cX6_turn 106 = .ok (.bipush 60, 2) := by decide +kernel
theorem dX6_turn_108 : decode cX6_turn 108 = .ok (.irem, 1) := by decide +kernel
theorem dX6_turn_109 : decode cX6_turn 109 = .ok (.iadd, 1) := by decide +kernel
theorem dX6_turn_110 : decode cX6_turn 110 = .ok (.invokestatic 141, 3) := by decide +kernel
theorem dX6_turn_113 : decode cX6_turn 113 = .ok (.pop, 1) := by decide +kernel
theorem dX6_turn_114 : decode cX6_turn 114 = .ok (.goto 95, 3) := by decide +kernel
theorem dX6_turn_117 : decode cX6_turn 117 = .ok (.iload 5, 2) := by decide +kernel
theorem dX6_turn_119 : decode cX6_turn 119 = .ok (.iconst 4, 1) := by decide +kernel
theorem dX6_turn_120 : decode cX6_turn 120 = .ok (.if_icmp .ne 65, 3) := by decide +kernel
theorem dX6_turn_123 : decode cX6_turn 123 = .ok (.aload_n 1, 1) := by decide +kernel
theorem dX6_turn_124 : decode cX6_turn 124 = .ok (.iload 4, 2) := by decide +kernel
theorem dX6_turn_126 : decode cX6_turn 126 = .ok (.invokestatic 134, 3) := by decide +kernel
theorem dX6_turn_129 : decode cX6_turn 129 = .ok (.ifCond .eq 36, 3) := by decide +kernel
theorem dX6_turn_132 : decode cX6_turn 132 = .ok (.iload_n 3, 1) := by decide +kernel
theorem dX6_turn_133 : decode cX6_turn 133 = .ok (.bipush 8, 2) := by decide +kernel
theorem dX6_turn_135 : decode cX6_turn 135 = .ok (.idiv, 1) := by decide +kernel
theorem dX6_turn_136 : decode cX6_turn 136 = .ok (.iconst 3, 1) := by decide +kernel
theorem dX6_turn_137 : decode cX6_turn 137 = .ok (.irem, 1) := by decide +kernel
theorem dX6_turn_138 : decode cX6_turn 138 = .ok (.ifCond .ne 27, 3) := by decide +kernel
theorem dX6_turn_141 : decode cX6_turn 141 = .ok (.aload_n 1, 1) := by decide +kernel
theorem dX6_turn_142 : decode cX6_turn 142 = .ok (.iload 4, 2) := by decide +kernel
theorem dX6_turn_144 : decode cX6_turn 144 = .ok (.iload_n 3, 1) := by decide +kernel
theorem dX6_turn_145 : decode cX6_turn 145 = .ok (.iconst 4, 1) := by decide +kernel
theorem dX6_turn_146 : decode cX6_turn 146 = .ok (.idiv, 1) := by decide +kernel
theorem dX6_turn_147 : decode cX6_turn 147 = .ok (.iconst 2, 1) := by decide +kernel
theorem dX6_turn_148 : decode cX6_turn 148 = .ok (.irem, 1) := by decide +kernel
theorem dX6_turn_149 : decode cX6_turn 149 = .ok (.iconst 1, 1) := by decide +kernel
theorem dX6_turn_150 : decode cX6_turn 150 = .ok (.if_icmp .ne 7, 3) := by decide +kernel
theorem dX6_turn_153 : decode cX6_turn 153 = .ok (.iconst 1, 1) := by decide +kernel
theorem dX6_turn_154 : decode cX6_turn 154 = .ok (.goto 4, 3) := by decide +kernel
theorem dX6_turn_157 : decode cX6_turn 157 = .ok (.iconst 0, 1) := by decide +kernel
theorem dX6_turn_158 : decode cX6_turn 158 = .ok (.invokestatic 145, 3) := by decide +kernel
theorem dX6_turn_161 : decode cX6_turn 161 = .ok (.pop, 1) := by decide +kernel
theorem dX6_turn_162 : decode cX6_turn 162 = .ok (.goto 47, 3) := by decide +kernel
theorem dX6_turn_165 : decode cX6_turn 165 = .ok (.aload_n 1, 1) := by decide +kernel
theorem dX6_turn_166 : decode cX6_turn 166 = .ok (.iload 4, 2) := by decide +kernel
theorem dX6_turn_168 : decode cX6_turn 168 = .ok (.invokestatic 134, 3) := by decide +kernel
theorem dX6_turn_171 : decode cX6_turn 171 = .ok (.ifCond .eq 38, 3) := by decide +kernel
theorem dX6_turn_174 : decode cX6_turn 174 = .ok (.aload_n 1, 1) := by decide +kernel
theorem dX6_turn_175 : decode cX6_turn 175 = .ok (.iload 4, 2) := by decide +kernel
theorem dX6_turn_177 : decode cX6_turn 177 = .ok (.iconst 0, 1) := by decide +kernel
theorem dX6_turn_178 : decode cX6_turn 178 = .ok (.invokestatic 62, 3) := by decide +kernel
theorem dX6_turn_181 : decode cX6_turn 181 = .ok (.pop, 1) := by decide +kernel
theorem dX6_turn_182 : decode cX6_turn 182 = .ok (.goto 27, 3) := by decide +kernel
theorem dX6_turn_185 : decode cX6_turn 185 = .ok (.aload_n 0, 1) := by decide +kernel
theorem dX6_turn_186 : decode cX6_turn 186 = .ok (.iconst 1, 1) := by decide +kernel
theorem dX6_turn_187 : decode cX6_turn 187 = .ok (.iload_n 3, 1) := by decide +kernel
theorem dX6_turn_188 : decode cX6_turn 188 = .ok (.bipush 9, 2) := by decide +kernel
theorem dX6_turn_190 : decode cX6_turn 190 = .ok (.irem, 1) := by decide +kernel
theorem dX6_turn_191 : decode cX6_turn 191 = .ok (.iadd, 1) := by decide +kernel
theorem dX6_turn_192 : decode cX6_turn 192 = .ok (.invokevirtual 188, 3) := by decide +kernel
theorem dX6_turn_195 : decode cX6_turn 195 = .ok (.ifCond .eq 14, 3) := by decide +kernel
theorem dX6_turn_198 : decode cX6_turn 198 = .ok (.aload_n 1, 1) := by decide +kernel
theorem dX6_turn_199 : decode cX6_turn 199 = .ok (.iconst 1, 1) := by decide +kernel
theorem dX6_turn_200 : decode cX6_turn 200 = .ok (.iload_n 3, 1) := by decide +kernel
theorem dX6_turn_201 : decode cX6_turn 201 = .ok (.bipush 9, 2) := by decide +kernel
theorem dX6_turn_203 : decode cX6_turn 203 = .ok (.irem, 1) := by decide +kernel
theorem dX6_turn_204 : decode cX6_turn 204 = .ok (.iadd, 1) := by decide +kernel
theorem dX6_turn_205 : decode cX6_turn 205 = .ok (.invokestatic 148, 3) := by decide +kernel
theorem dX6_turn_208 : decode cX6_turn 208 = .ok (.pop, 1) := by decide +kernel
theorem dX6_turn_209 : decode cX6_turn 209 = .ok (.return_, 1) := by decide +kernel
theorem dX6_simulate_0 : decode cX6_simulate 0 = .ok (.aload_n 0, 1) := by decide +kernel
theorem dX6_simulate_1 : decode cX6_simulate 1 = .ok (.iload_n 3, 1) := by decide +kernel
theorem dX6_simulate_2 : decode cX6_simulate 2 = .ok (.i2l, 1) := by decide +kernel
theorem dX6_simulate_3 : decode cX6_simulate 3 = .ok (.lconst 1, 1) := by decide +kernel
theorem dX6_simulate_4 : decode cX6_simulate 4 = .ok (.ldc2_w 199, 3) := by decide +kernel
theorem dX6_simulate_7 : decode cX6_simulate 7 = .ok (.invokestatic 48, 3) := by decide +kernel
theorem dX6_simulate_10 : decode cX6_simulate 10 = .ok (.ifCond .eq 7, 3) := by decide +kernel
theorem dX6_simulate_13 : decode cX6_simulate 13 = .ok (.iconst 0, 1) := by decide +kernel
theorem dX6_simulate_14 : decode cX6_simulate 14 = .ok (.goto 4, 3) := by decide +kernel
theorem dX6_simulate_17 : decode cX6_simulate 17 = .ok (.iconst 1, 1) := by decide +kernel
theorem dX6_simulate_18 : decode cX6_simulate 18 = .ok (.invokevirtual 120, 3) := by decide +kernel
theorem dX6_simulate_21 : decode cX6_simulate 21 = .ok (.ifCond .eq 5, 3) := by decide +kernel
theorem dX6_simulate_24 : decode cX6_simulate 24 = .ok (.iconst 0, 1) := by decide +kernel
theorem dX6_simulate_25 : decode cX6_simulate 25 = .ok (.ireturn, 1) := by decide +kernel
theorem dX6_simulate_26 : decode cX6_simulate 26 = .ok (.aload_n 0, 1) := by decide +kernel
theorem dX6_simulate_27 : decode cX6_simulate 27 = .ok (.getfield 13, 3) := by decide +kernel
theorem dX6_simulate_30 : decode cX6_simulate 30 = .ok (.iconst 0, 1) := by decide +kernel
theorem dX6_simulate_31 : decode cX6_simulate 31 = .ok (.aload_n 0, 1) := by decide +kernel
theorem dX6_simulate_32 : decode cX6_simulate 32 = .ok (.getfield 16, 3) := by decide +kernel
theorem dX6_simulate_35 : decode cX6_simulate 35 = .ok (.iconst 0, 1) := by decide +kernel
theorem dX6_simulate_36 : decode cX6_simulate 36 = .ok (.invokestatic 159, 3) := by decide +kernel
theorem dX6_simulate_39 : decode cX6_simulate 39 = .ok (.lload_n 1, 1) := by decide +kernel
theorem dX6_simulate_40 : decode cX6_simulate 40 = .ok (.lstore 4, 2) := by decide +kernel
theorem dX6_simulate_42 : decode cX6_simulate 42 = .ok (.iconst 0, 1) := by decide +kernel
theorem dX6_simulate_43 : decode cX6_simulate 43 = .ok (.istore 6, 2) := by decide +kernel
theorem dX6_simulate_45 : decode cX6_simulate 45 = .ok (.iload 6, 2) := by decide +kernel
theorem dX6_simulate_47 : decode cX6_simulate 47 = .ok (.iload_n 3, 1) := by decide +kernel
theorem dX6_simulate_48 : decode cX6_simulate 48 = .ok (.if_icmp .ge 35, 3) := by decide +kernel
theorem dX6_simulate_51 : decode cX6_simulate 51 = .ok (.lload 4, 2) := by decide +kernel
theorem dX6_simulate_53 : decode cX6_simulate 53 = .ok (.ldc2_w 201, 3) := by decide +kernel
theorem dX6_simulate_56 : decode cX6_simulate 56 = .ok (.lmul, 1) := by decide +kernel
theorem dX6_simulate_57 : decode cX6_simulate 57 = .ok (.ldc2_w 203, 3) := by decide +kernel
theorem dX6_simulate_60 : decode cX6_simulate 60 = .ok (.ladd, 1) := by decide +kernel
theorem dX6_simulate_61 : decode cX6_simulate 61 = .ok (.lstore 4, 2) := by decide +kernel
theorem dX6_simulate_63 : decode cX6_simulate 63 = .ok (.aload_n 0, 1) := by decide +kernel
theorem dX6_simulate_64 : decode cX6_simulate 64 = .ok (.aload_n 0, 1) := by decide +kernel
theorem dX6_simulate_65 : decode cX6_simulate 65 = .ok (.getfield 16, 3) := by decide +kernel
theorem dX6_simulate_68 : decode cX6_simulate 68 = .ok (.lload 4, 2) := by decide +kernel
theorem dX6_simulate_70 : decode cX6_simulate 70 = .ok (.bipush 33, 2) := by decide +kernel
theorem dX6_simulate_72 : decode cX6_simulate 72 = .ok (.lushr, 1) := by decide +kernel
theorem dX6_simulate_73 : decode cX6_simulate 73 = .ok (.l2i, 1) := by decide +kernel
theorem dX6_simulate_74 : decode cX6_simulate 74 = .ok (.invokevirtual 205, 3) := by decide +kernel
theorem dX6_simulate_77 : decode cX6_simulate 77 = .ok (.iinc 6 1, 3) := by decide +kernel
theorem dX6_simulate_80 : decode cX6_simulate 80 = .ok (.goto (-35), 3) := by decide +kernel
theorem dX6_simulate_83 : decode cX6_simulate 83 = .ok (.aload_n 0, 1) := by decide +kernel
theorem dX6_simulate_84 : decode cX6_simulate 84 = .ok (.getfield 16, 3) := by decide +kernel
theorem dX6_simulate_87 : decode cX6_simulate 87 = .ok (.iconst 3, 1) := by decide +kernel
theorem dX6_simulate_88 : decode cX6_simulate 88 = .ok (.invokestatic 95, 3) := by decide +kernel
theorem dX6_simulate_91 : decode cX6_simulate 91 = .ok (.aload_n 0, 1) := by decide +kernel
theorem dX6_simulate_92 : decode cX6_simulate 92 = .ok (.getfield 13, 3) := by decide +kernel
theorem dX6_simulate_95 : decode cX6_simulate 95 = .ok (.iconst 3, 1) := by decide +kernel
theorem dX6_simulate_96 : decode cX6_simulate 96 = .ok (.invokestatic 95, 3) := by decide +kernel
theorem dX6_simulate_99 : decode cX6_simulate 99 = .ok (.isub, 1) := by decide +kernel
theorem dX6_simulate_100 : decode cX6_simulate 100 = .ok (.istore 6, 2) := by decide +kernel
theorem dX6_simulate_102 : decode cX6_simulate 102 = .ok (.aload_n 0, 1) := by decide +kernel
theorem dX6_simulate_103 : decode cX6_simulate 103 = .ok (.getfield 16, 3) := by decide +kernel
theorem dX6_simulate_106 : decode cX6_simulate 106 = .ok (.iconst 4, 1) := by decide +kernel
theorem dX6_simulate_107 : decode cX6_simulate 107 = .ok (.invokestatic 95, 3) := by decide +kernel
theorem dX6_simulate_110 : decode cX6_simulate 110 = .ok (.aload_n 0, 1) := by decide +kernel
theorem dX6_simulate_111 : decode cX6_simulate 111 = .ok (.getfield 13, 3) := by decide +kernel
theorem dX6_simulate_114 : decode cX6_simulate 114 = .ok (.iconst 4, 1) := by decide +kernel
theorem dX6_simulate_115 : decode cX6_simulate 115 = .ok (.invokestatic 95, 3) := by decide +kernel
theorem dX6_simulate_118 : decode cX6_simulate 118 = .ok (.isub, 1) := by decide +kernel
theorem dX6_simulate_119 : decode cX6_simulate 119 = .ok (.istore 7, 2) := by decide +kernel
theorem dX6_simulate_121 : decode cX6_simulate 121 = .ok (.sipush 10000, 3) := by decide +kernel
theorem dX6_simulate_124 : decode cX6_simulate 124 = .ok (.iload 6, 2) := by decide +kernel
theorem dX6_simulate_126 : decode cX6_simulate 126 = .ok (.sipush 999, 3) := by decide +kernel
theorem dX6_simulate_129 : decode cX6_simulate 129 = .ok (.if_icmp .le 9, 3) := by decide +kernel
theorem dX6_simulate_132 : decode cX6_simulate 132 = .ok (.sipush 999, 3) := by decide +kernel
theorem dX6_simulate_135 : decode cX6_simulate 135 = .ok (.goto 5, 3) := by decide +kernel
theorem dX6_simulate_138 : decode cX6_simulate 138 = .ok (.iload 6, 2) := by decide +kernel
theorem dX6_simulate_140 : decode cX6_simulate 140 = .ok (.imul, 1) := by decide +kernel
theorem dX6_simulate_141 : decode cX6_simulate 141 = .ok (.iload 7, 2) := by decide +kernel
theorem dX6_simulate_143 : decode cX6_simulate 143 = .ok (.sipush 9999, 3) := by decide +kernel
theorem dX6_simulate_146 : decode cX6_simulate 146 = .ok (.if_icmp .le 9, 3) := by decide +kernel
theorem dX6_simulate_149 : decode cX6_simulate 149 = .ok (.sipush 9999, 3) := by decide +kernel
theorem dX6_simulate_152 : decode cX6_simulate 152 = .ok (.goto 5, 3) := by decide +kernel
theorem dX6_simulate_155 : decode cX6_simulate 155 = .ok (.iload 7, 2) := by decide +kernel
theorem dX6_simulate_157 : decode cX6_simulate 157 = .ok (.iadd, 1) := by decide +kernel
theorem dX6_simulate_158 : decode cX6_simulate 158 = .ok (.ireturn, 1) := by decide +kernel
theorem dX6_save_0 : decode cX6_save 0 = .ok (.aload_n 0, 1) := by decide +kernel
theorem dX6_save_1 : decode cX6_save 1 = .ok (.iload_n 1, 1) := by decide +kernel
theorem dX6_save_2 : decode cX6_save 2 = .ok (.i2l, 1) := by decide +kernel
theorem dX6_save_3 : decode cX6_save 3 = .ok (.lconst 0, 1) := by decide +kernel
theorem dX6_save_4 : decode cX6_save 4 = .ok (.lconst 1, 1) := by decide +kernel
theorem dX6_save_5 : decode cX6_save 5 = .ok (.invokestatic 48, 3) := by decide +kernel
theorem dX6_save_8 : decode cX6_save 8 = .ok (.ifCond .eq 7, 3) := by decide +kernel
theorem dX6_save_11 : decode cX6_save 11 = .ok (.iconst 0, 1) := by decide +kernel
theorem dX6_save_12 : decode cX6_save 12 = .ok (.goto 4, 3) := by decide +kernel
theorem dX6_save_15 : decode cX6_save 15 = .ok (.iconst 1, 1) := by decide +kernel
theorem dX6_save_16 : decode cX6_save 16 = .ok (.invokevirtual 120, 3) := by decide +kernel
theorem dX6_save_19 : decode cX6_save 19 = .ok (.ifCond .eq 5, 3) := by decide +kernel
theorem dX6_save_22 : decode cX6_save 22 = .ok (.iconst 0, 1) := by decide +kernel
theorem dX6_save_23 : decode cX6_save 23 = .ok (.ireturn, 1) := by decide +kernel
theorem dX6_save_24 : decode cX6_save 24 = .ok (.aload_n 0, 1) := by decide +kernel
theorem dX6_save_25 : decode cX6_save 25 = .ok (.getfield 13, 3) := by decide +kernel
theorem dX6_save_28 : decode cX6_save 28 = .ok (.iconst 0, 1) := by decide +kernel
theorem dX6_save_29 : decode cX6_save 29 = .ok (.aload_n 0, 1) := by decide +kernel
theorem dX6_save_30 : decode cX6_save 30 = .ok (.getfield 25, 3) := by decide +kernel
theorem dX6_save_33 : decode cX6_save 33 = .ok (.sipush 187, 3) := by decide +kernel
theorem dX6_save_36 : decode cX6_save 36 = .ok (.iload_n 1, 1) := by decide +kernel
theorem dX6_save_37 : decode cX6_save 37 = .ok (.imul, 1) := by decide +kernel
theorem dX6_save_38 : decode cX6_save 38 = .ok (.invokestatic 159, 3) := by decide +kernel
theorem dX6_save_41 : decode cX6_save 41 = .ok (.aload_n 0, 1) := by decide +kernel
theorem dX6_save_42 : decode cX6_save 42 = .ok (.getfield 28, 3) := by decide +kernel
theorem dX6_save_45 : decode cX6_save 45 = .ok (.iload_n 1, 1) := by decide +kernel
theorem dX6_save_46 : decode cX6_save 46 = .ok (.iconst 1, 1) := by decide +kernel
theorem dX6_save_47 : decode cX6_save 47 = .ok (.bastore, 1) := by decide +kernel
theorem dX6_save_48 : decode cX6_save 48 = .ok (.aload_n 0, 1) := by decide +kernel
theorem dX6_save_49 : decode cX6_save 49 = .ok (.getfield 13, 3) := by decide +kernel
theorem dX6_save_52 : decode cX6_save 52 = .ok (.iconst 1, 1) := by decide +kernel
theorem dX6_save_53 : decode cX6_save 53 = .ok (.iaload, 1) := by decide +kernel
theorem dX6_save_54 : decode cX6_save 54 = .ok (.ireturn, 1) := by decide +kernel
theorem dX6_restore_0 : decode cX6_restore 0 = .ok (.aload_n 0, 1) := by decide +kernel
theorem dX6_restore_1 : decode cX6_restore 1 = .ok (.iload_n 1, 1) := by decide +kernel
theorem dX6_restore_2 : decode cX6_restore 2 = .ok (.i2l, 1) := by decide +kernel
theorem dX6_restore_3 : decode cX6_restore 3 = .ok (.lconst 0, 1) := by decide +kernel
theorem dX6_restore_4 : decode cX6_restore 4 = .ok (.lconst 1, 1) := by decide +kernel
theorem dX6_restore_5 : decode cX6_restore 5 = .ok (.invokestatic 48, 3) := by decide +kernel
theorem dX6_restore_8 : decode cX6_restore 8 = .ok (.ifCond .ne 7, 3) := by decide +kernel
theorem dX6_restore_11 : decode cX6_restore 11 = .ok (.iconst 1, 1) := by decide +kernel
theorem dX6_restore_12 : decode cX6_restore 12 = .ok (.goto 17, 3) := by decide +kernel
theorem dX6_restore_15 : decode cX6_restore 15 = .ok (.aload_n 0, 1) := by decide +kernel
theorem dX6_restore_16 : decode cX6_restore 16 = .ok (.getfield 28, 3) := by decide +kernel
theorem dX6_restore_19 : decode cX6_restore 19 = .ok (.iload_n 1, 1) := by decide +kernel
theorem dX6_restore_20 : decode cX6_restore 20 = .ok (.baload, 1) := by decide +kernel
theorem dX6_restore_21 : decode cX6_restore 21 = .ok (.ifCond .ne 7, 3) := by decide +kernel
theorem dX6_restore_24 : decode cX6_restore 24 = .ok (.iconst 2, 1) := by decide +kernel
theorem dX6_restore_25 : decode cX6_restore 25 = .ok (.goto 4, 3) := by decide +kernel
theorem dX6_restore_28 : decode cX6_restore 28 = .ok (.iconst 0, 1) := by decide +kernel
theorem dX6_restore_29 : decode cX6_restore 29 = .ok (.invokevirtual 120, 3) := by decide +kernel
theorem dX6_restore_32 : decode cX6_restore 32 = .ok (.ifCond .eq 5, 3) := by decide +kernel
theorem dX6_restore_35 : decode cX6_restore 35 = .ok (.iconst 0, 1) := by decide +kernel
theorem dX6_restore_36 : decode cX6_restore 36 = .ok (.ireturn, 1) := by decide +kernel
theorem dX6_restore_37 : decode cX6_restore 37 = .ok (.aload_n 0, 1) := by decide +kernel
theorem dX6_restore_38 : decode cX6_restore 38 = .ok (.getfield 25, 3) := by decide +kernel
theorem dX6_restore_41 : decode cX6_restore 41 = .ok (.sipush 187, 3) := by decide +kernel
theorem dX6_restore_44 : decode cX6_restore 44 = .ok (.iload_n 1, 1) := by decide +kernel
theorem dX6_restore_45 : decode cX6_restore 45 = .ok (.imul, 1) := by decide +kernel
theorem dX6_restore_46 : decode cX6_restore 46 = .ok (.aload_n 0, 1) := by decide +kernel
theorem dX6_restore_47 : decode cX6_restore 47 = .ok (.getfield 13, 3) := by decide +kernel
theorem dX6_restore_50 : decode cX6_restore 50 = .ok (.iconst 0, 1) := by decide +kernel
theorem dX6_restore_51 : decode cX6_restore 51 = .ok (.invokestatic 159, 3) := by decide +kernel
theorem dX6_restore_54 : decode cX6_restore 54 = .ok (.aload_n 0, 1) := by decide +kernel
theorem dX6_restore_55 : decode cX6_restore 55 = .ok (.iconst 0, 1) := by decide +kernel
theorem dX6_restore_56 : decode cX6_restore 56 = .ok (.putfield 163, 3) := by decide +kernel
theorem dX6_restore_59 : decode cX6_restore 59 = .ok (.aload_n 0, 1) := by decide +kernel
theorem dX6_restore_60 : decode cX6_restore 60 = .ok (.getfield 13, 3) := by decide +kernel
theorem dX6_restore_63 : decode cX6_restore 63 = .ok (.iconst 1, 1) := by decide +kernel
theorem dX6_restore_64 : decode cX6_restore 64 = .ok (.iaload, 1) := by decide +kernel
theorem dX6_restore_65 : decode cX6_restore 65 = .ok (.ireturn, 1) := by decide +kernel
