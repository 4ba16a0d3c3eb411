theorem dX0_init_0 : decode cX0_init 0 = .ok (.aload_n 0, 1) := by decide +kernel
theorem dX0_init_1 : decode cX0_init 1 = .ok (.invokespecial 3, 3) := by decide +kernel
theorem dX0_init_4 : decode cX0_init 4 = .ok (.aload_n 0, 1) := by decide +kernel
theorem dX0_init_5 : decode cX0_init 5 = .ok (.iconst 0, 1) := by decide +kernel
theorem dX0_init_6 : decode cX0_init 6 = .ok (.putfield 9, 3) := by decide +kernel
theorem dX0_init_9 : decode cX0_init 9 = .ok (.iload_n 1, 1) := by decide +kernel
theorem dX0_init_10 : decode cX0_init 10 = .ok (.iconst 0, 1) := by decide +kernel
theorem dX0_init_11 : decode cX0_init 11 = .ok (.invokestatic 15, 3) := by decide +kernel
theorem dX0_init_14 : decode cX0_init 14 = .ok (.istore_n 2, 1) := by decide +kernel
theorem dX0_init_15 : decode cX0_init 15 = .ok (.aload_n 0, 1) := by decide +kernel
theorem dX0_init_16 : decode cX0_init 16 = .ok (.iload_n 2, 1) := by decide +kernel
theorem dX0_init_17 : decode cX0_init 17 = .ok (.newarray .int, 2) := by decide +kernel
theorem dX0_init_19 : decode cX0_init 19 = .ok (.putfield 21, 3) := by decide +kernel
theorem dX0_init_22 : decode cX0_init 22 = .ok (.aload_n 0, 1) := by decide +kernel
theorem dX0_init_23 : decode cX0_init 23 = .ok (.iload_n 2, 1) := by decide +kernel
theorem dX0_init_24 : decode cX0_init 24 = .ok (.newarray .int, 2) := by decide +kernel
theorem dX0_init_26 : decode cX0_init 26 = .ok (.putfield 25, 3) := by decide +kernel
theorem dX0_init_29 : decode cX0_init 29 = .ok (.aload_n 0, 1) := by decide +kernel
theorem dX0_init_30 : decode cX0_init 30 = .ok (.iload_n 2, 1) := by decide +kernel
theorem dX0_init_31 : decode cX0_init 31 = .ok (.newarray .int, 2) := by decide +kernel
theorem dX0_init_33 : decode cX0_init 33 = .ok (.putfield 28, 3) := by decide +kernel
theorem dX0_init_36 : decode cX0_init 36 = .ok (.return_, 1) := by decide +kernel
theorem dX0_timeAt_0 : decode cX0_timeAt 0 = .ok (.iload_n 1, 1) := by decide +kernel
theorem dX0_timeAt_1 : decode cX0_timeAt 1 = .ok (.ifCond .lt 29, 3) := by decide +kernel
theorem dX0_timeAt_4 : decode cX0_timeAt 4 = .ok (.iload_n 1, 1) := by decide +kernel
theorem dX0_timeAt_5 : decode cX0_timeAt 5 = .ok (.aload_n 0, 1) := by decide +kernel
theorem dX0_timeAt_6 : decode cX0_timeAt 6 = .ok (.getfield 9, 3) := by decide +kernel
theorem dX0_timeAt_9 : decode cX0_timeAt 9 = .ok (.if_icmp .ge 21, 3) := by decide +kernel
theorem dX0_timeAt_12 : decode cX0_timeAt 12 = .ok (.iload_n 1, 1) := by decide +kernel
theorem dX0_timeAt_13 : decode cX0_timeAt 13 = .ok (.aload_n 0, 1) := by decide +kernel
theorem dX0_timeAt_14 : decode cX0_timeAt 14 = .ok (.getfield 21, 3) := by decide +kernel
theorem dX0_timeAt_17 : decode cX0_timeAt 17 = .ok (.arraylength, 1) := by decide +kernel
theorem dX0_timeAt_18 : decode cX0_timeAt 18 = .ok (.if_icmp .ge 12, 3) := by decide +kernel
theorem dX0_timeAt_21 : decode cX0_timeAt 21 = .ok (.aload_n 0, 1) := by decide +kernel
theorem dX0_timeAt_22 : decode cX0_timeAt 22 = .ok (.getfield 21, 3) := by decide +kernel
theorem dX0_timeAt_25 : decode cX0_timeAt 25 = .ok (.iload_n 1, 1) := by decide +kernel
theorem dX0_timeAt_26 : decode cX0_timeAt 26 = .ok (.iaload, 1) := by decide +kernel
theorem dX0_timeAt_27 : decode cX0_timeAt 27 = .ok (.goto 4, 3) := by decide +kernel
theorem dX0_timeAt_30 : decode cX0_timeAt 30 = .ok (.iconst (-1), 1) := by decide +kernel
theorem dX0_timeAt_31 : decode cX0_timeAt 31 = .ok (.ireturn, 1) := by decide +kernel
theorem dX0_writerAt_0 : decode cX0_writerAt 0 = .ok (.iload_n 1, 1) := by decide +kernel
theorem dX0_writerAt_1 : decode cX0_writerAt 1 = .ok (.ifCond .lt 29, 3) := by decide +kernel
theorem dX0_writerAt_4 : decode cX0_writerAt 4 = .ok (.iload_n 1, 1) := by decide +kernel
theorem dX0_writerAt_5 : decode cX0_writerAt 5 = .ok (.aload_n 0, 1) := by decide +kernel
theorem dX0_writerAt_6 : decode cX0_writerAt 6 = .ok (.getfield 9, 3) := by decide +kernel
theorem dX0_writerAt_9 : decode cX0_writerAt 9 = .ok (.if_icmp .ge 21, 3) := by decide +kernel
theorem dX0_writerAt_12 : decode cX0_writerAt 12 = .ok (.iload_n 1, 1) := by decide +kernel
theorem dX0_writerAt_13 : decode cX0_writerAt 13 = .ok (.aload_n 0, 1) := by decide +kernel
theorem dX0_writerAt_14 : decode cX0_writerAt 14 = .ok (.getfield 25, 3) := by decide +kernel
theorem dX0_writerAt_17 : decode cX0_writerAt 17 = .ok (.arraylength, 1) := by decide +kernel
theorem dX0_writerAt_18 : decode cX0_writerAt 18 = .ok (.if_icmp .ge 12, 3) := by decide +kernel
theorem dX0_writerAt_21 : decode cX0_writerAt 21 = .ok (.aload_n 0, 1) := by decide +kernel
theorem dX0_writerAt_22 : decode cX0_writerAt 22 = .ok (.getfield 25, 3) := by decide +kernel
theorem dX0_writerAt_25 : decode cX0_writerAt 25 = .ok (.iload_n 1, 1) := by decide +kernel
theorem dX0_writerAt_26 : decode cX0_writerAt 26 = .ok (.iaload, 1) := by decide +kernel
theorem dX0_writerAt_27 : decode cX0_writerAt 27 = .ok (.goto 4, 3) := by decide +kernel
theorem dX0_writerAt_30 : decode cX0_writerAt 30 = .ok (.iconst (-1), 1) := by decide +kernel
theorem dX0_writerAt_31 : decode cX0_writerAt 31 = .ok (.ireturn, 1) := by decide +kernel
theorem dX0_numberAt_0 : decode cX0_numberAt 0 = .ok (.iload_n 1, 1) := by decide +kernel
theorem dX0_numberAt_1 : decode cX0_numberAt 1 = .ok (.ifCond .lt 29, 3) := by decide +kernel
theorem dX0_numberAt_4 : decode cX0_numberAt 4 = .ok (.iload_n 1, 1) := by decide +kernel
theorem dX0_numberAt_5 : decode cX0_numberAt 5 = .ok (.aload_n 0, 1) := by decide +kernel
theorem dX0_numberAt_6 : decode cX0_numberAt 6 = .ok (.getfield 9, 3) := by decide +kernel
theorem dX0_numberAt_9 : decode cX0_numberAt 9 = .ok (.if_icmp .ge 21, 3) := by decide +kernel
theorem dX0_numberAt_12 : decode cX0_numberAt 12 = .ok (.iload_n 1, 1) := by decide +kernel
theorem dX0_numberAt_13 : decode cX0_numberAt 13 = .ok (.aload_n 0, 1) := by decide +kernel
theorem dX0_numberAt_14 : decode cX0_numberAt 14 = .ok (.getfield 28, 3) := by decide +kernel
theorem dX0_numberAt_17 : decode cX0_numberAt 17 = .ok (.arraylength, 1) := by decide +kernel
theorem dX0_numberAt_18 : decode cX0_numberAt 18 = .ok (.if_icmp .ge 12, 3) := by decide +kernel
theorem dX0_numberAt_21 : decode cX0_numberAt 21 = .ok (.aload_n 0, 1) := by decide +kernel
theorem dX0_numberAt_22 : decode cX0_numberAt 22 = .ok (.getfield 28, 3) := by decide +kernel
theorem dX0_numberAt_25 : decode cX0_numberAt 25 = .ok (.iload_n 1, 1) := by decide +kernel
theorem dX0_numberAt_26 : decode cX0_numberAt 26 = .ok (.iaload, 1) := by decide +kernel
theorem dX0_numberAt_27 : decode cX0_numberAt 27 = .ok (.goto 4, 3) := by decide +kernel
theorem dX0_numberAt_30 : decode cX0_numberAt 30 = .ok (.iconst (-1), 1) := by decide +kernel
theorem dX0_numberAt_31 : decode cX0_numberAt 31 = .ok (.ireturn, 1) := by decide +kernel
theorem dX0_addLast_0 : decode cX0_addLast 0 = .ok (.aload_n 0, 1) := by decide +kernel
theorem dX0_addLast_1 : decode cX0_addLast 1 = .ok (.getfield 9, 3) := by decide +kernel
theorem dX0_addLast_4 : decode cX0_addLast 4 = .ok (.ifCond .lt 55, 3) := by decide +kernel
theorem dX0_addLast_7 : decode cX0_addLast 7 = .ok (.aload_n 0, 1) := by decide +kernel
theorem dX0_addLast_8 : decode cX0_addLast 8 = .ok (.getfield 9, 3) := by decide +kernel
theorem dX0_addLast_11 : decode cX0_addLast 11 = .ok (.aload_n 0, 1) := by decide +kernel
theorem dX0_addLast_12 : decode cX0_addLast 12 = .ok (.getfield 21, 3) := by decide +kernel
theorem dX0_addLast_15 : decode cX0_addLast 15 = .ok (.arraylength, 1) := by decide +kernel
theorem dX0_addLast_16 : decode cX0_addLast 16 = .ok (.if_icmp .ge 43, 3) := by decide +kernel
theorem dX0_addLast_19 : decode cX0_addLast 19 = .ok (.aload_n 0, 1) := by decide +kernel
theorem dX0_addLast_20 : decode cX0_addLast 20 = .ok (.getfield 21, 3) := by decide +kernel
theorem dX0_addLast_23 : decode cX0_addLast 23 = .ok (.aload_n 0, 1) := by decide +kernel
theorem dX0_addLast_24 : decode cX0_addLast 24 = .ok (.getfield 9, 3) := by decide +kernel
theorem dX0_addLast_27 : decode cX0_addLast 27 = .ok (.iload_n 1, 1) := by decide +kernel
theorem dX0_addLast_28 : decode cX0_addLast 28 = .ok (.iastore, 1) := by decide +kernel
theorem dX0_addLast_29 : decode cX0_addLast 29 = .ok (.aload_n 0, 1) := by decide +kernel
theorem dX0_addLast_30 : decode cX0_addLast 30 = .ok (.getfield 25, 3) := by decide +kernel
theorem dX0_addLast_33 : decode cX0_addLast 33 = .ok (.aload_n 0, 1) := by decide +kernel
theorem dX0_addLast_34 : decode cX0_addLast 34 = .ok (.getfield 9, 3) := by decide +kernel
theorem dX0_addLast_37 : decode cX0_addLast 37 = .ok (.iload_n 2, 1) := by decide +kernel
theorem dX0_addLast_38 : decode cX0_addLast 38 = .ok (.iastore, 1) := by decide +kernel
theorem dX0_addLast_39 : decode cX0_addLast 39 = .ok (.aload_n 0, 1) := by decide +kernel
theorem dX0_addLast_40 : decode cX0_addLast 40 = .ok (.getfield 28, 3) := by decide +kernel
theorem dX0_addLast_43 : decode cX0_addLast 43 = .ok (.aload_n 0, 1) := by decide +kernel
theorem dX0_addLast_44 : decode cX0_addLast 44 = .ok (.getfield 9, 3) := by decide +kernel
theorem dX0_addLast_47 : decode cX0_addLast 47 = .ok (.iload_n 3, 1) := by decide +kernel
theorem dX0_addLast_48 : decode cX0_addLast 48 = .ok (.iastore, 1) := by decide +kernel
theorem dX0_addLast_49 : decode cX0_addLast 49 = .ok (.aload_n 0, 1) := by decide +kernel
theorem dX0_addLast_50 : decode cX0_addLast 50 = .ok (.dup, 1) := by decide +kernel
theorem dX0_addLast_51 : decode cX0_addLast 51 = .ok (.getfield 9, 3) := by decide +kernel
theorem dX0_addLast_54 : decode cX0_addLast 54 = .ok (.iconst 1, 1) := by decide +kernel
theorem dX0_addLast_55 : decode cX0_addLast 55 = .ok (.iadd, 1) := by decide +kernel
theorem dX0_addLast_56 : decode cX0_addLast 56 = .ok (.putfield 9, 3) := by decide +kernel
theorem dX0_addLast_59 : decode cX0_addLast 59 = .ok (.return_, 1) := by decide +kernel
theorem dX0_dropAt_0 : decode cX0_dropAt 0 = .ok (.iload_n 1, 1) := by decide +kernel
theorem dX0_dropAt_1 : decode cX0_dropAt 1 = .ok (.ifCond .lt 11, 3) := by decide +kernel
theorem dX0_dropAt_4 : decode cX0_dropAt 4 = .ok (.iload_n 1, 1) := by decide +kernel
theorem dX0_dropAt_5 : decode cX0_dropAt 5 = .ok (.aload_n 0, 1) := by decide +kernel
theorem dX0_dropAt_6 : decode cX0_dropAt 6 = .ok (.getfield 9, 3) := by decide +kernel
theorem dX0_dropAt_9 : decode cX0_dropAt 9 = .ok (.if_icmp .lt 4, 3) := by decide +kernel
theorem dX0_dropAt_12 : decode cX0_dropAt 12 = .ok (.return_, 1) := by decide +kernel
theorem dX0_dropAt_13 : decode cX0_dropAt 13 = .ok (.iload_n 1, 1) := by decide +kernel
theorem dX0_dropAt_14 : decode cX0_dropAt 14 = .ok (.istore_n 2, 1) := by decide +kernel
theorem dX0_dropAt_15 : decode cX0_dropAt 15 = .ok (.iload_n 2, 1) := by decide +kernel
theorem dX0_dropAt_16 : decode cX0_dropAt 16 = .ok (.iconst 1, 1) := by decide +kernel
theorem dX0_dropAt_17 : decode cX0_dropAt 17 = .ok (.iadd, 1) := by decide +kernel
theorem dX0_dropAt_18 : decode cX0_dropAt 18 = .ok (.aload_n 0, 1) := by decide +kernel
theorem dX0_dropAt_19 : decode cX0_dropAt 19 = .ok (.getfield 9, 3) := by decide +kernel
theorem dX0_dropAt_22 : decode cX0_dropAt 22 = .ok (.if_icmp .ge 62, 3) := by decide +kernel
theorem dX0_dropAt_25 : decode cX0_dropAt 25 = .ok (.iload_n 2, 1) := by decide +kernel
theorem dX0_dropAt_26 : decode cX0_dropAt 26 = .ok (.iconst 1, 1) := by decide +kernel
theorem dX0_dropAt_27 : decode cX0_dropAt 27 = .ok (.iadd, 1) := by decide +kernel
theorem dX0_dropAt_28 : decode cX0_dropAt 28 = .ok (.aload_n 0, 1) := by decide +kernel
theorem dX0_dropAt_29 : decode cX0_dropAt 29 = .ok (.getfield 21, 3) := by decide +kernel
theorem dX0_dropAt_32 : decode cX0_dropAt 32 = .ok (.arraylength, 1) := by decide +kernel
theorem dX0_dropAt_33 : decode cX0_dropAt 33 = .ok (.if_icmp .ge 51, 3) := by decide +kernel
theorem dX0_dropAt_36 : decode cX0_dropAt 36 = .ok (.aload_n 0, 1) := by decide +kernel
theorem dX0_dropAt_37 : decode cX0_dropAt 37 = .ok (.getfield 21, 3) := by decide +kernel
theorem dX0_dropAt_40 : decode cX0_dropAt 40 = .ok (.iload_n 2, 1) := by decide +kernel
theorem dX0_dropAt_41 : decode cX0_dropAt 41 = .ok (.aload_n 0, 1) := by decide +kernel
theorem dX0_dropAt_42 : decode cX0_dropAt 42 = .ok (.getfield 21, 3) := by decide +kernel
theorem dX0_dropAt_45 : decode cX0_dropAt 45 = .ok (.iload_n 2, 1) := by decide +kernel
theorem dX0_dropAt_46 : decode cX0_dropAt 46 = .ok (.iconst 1, 1) := by decide +kernel
theorem dX0_dropAt_47 : decode cX0_dropAt 47 = .ok (.iadd, 1) := by decide +kernel
theorem dX0_dropAt_48 : decode cX0_dropAt 48 = .ok (.iaload, 1) := by decide +kernel
theorem dX0_dropAt_49 : decode cX0_dropAt 49 = .ok (.iastore, 1) := by decide +kernel
theorem dX0_dropAt_50 : decode cX0_dropAt 50 = .ok (.aload_n 0, 1) := by decide +kernel
theorem dX0_dropAt_51 : decode cX0_dropAt 51 = .ok (.getfield 25, 3) := by decide +kernel
theorem dX0_dropAt_54 : decode cX0_dropAt 54 = .ok (.iload_n 2, 1) := by decide +kernel
theorem dX0_dropAt_55 : decode cX0_dropAt 55 = .ok (.aload_n 0, 1) := by decide +kernel
theorem dX0_dropAt_56 : decode cX0_dropAt 56 = .ok (.getfield 25, 3) := by decide +kernel
theorem dX0_dropAt_59 : decode cX0_dropAt 59 = .ok (.iload_n 2, 1) := by decide +kernel
theorem dX0_dropAt_60 : decode cX0_dropAt 60 = .ok (.iconst 1, 1) := by decide +kernel
theorem dX0_dropAt_61 : decode cX0_dropAt 61 = .ok (.iadd, 1) := by decide +kernel
theorem dX0_dropAt_62 : decode cX0_dropAt 62 = .ok (.iaload, 1) := by decide +kernel
theorem dX0_dropAt_63 : decode cX0_dropAt 63 = .ok (.iastore, 1) := by decide +kernel
theorem dX0_dropAt_64 : decode cX0_dropAt 64 = .ok (.aload_n 0, 1) := by decide +kernel
theorem dX0_dropAt_65 : decode cX0_dropAt 65 = .ok (.getfield 28, 3) := by decide +kernel
theorem dX0_dropAt_68 : decode cX0_dropAt 68 = .ok (.iload_n 2, 1) := by decide +kernel
theorem dX0_dropAt_69 : decode cX0_dropAt 69 = .ok (.aload_n 0, 1) := by decide +kernel
theorem dX0_dropAt_70 : decode cX0_dropAt 70 = .ok (.getfield 28, 3) := by decide +kernel
theorem dX0_dropAt_73 : decode cX0_dropAt 73 = .ok (.iload_n 2, 1) := by decide +kernel
theorem dX0_dropAt_74 : decode cX0_dropAt 74 = .ok (.iconst 1, 1) := by decide +kernel
theorem dX0_dropAt_75 : decode cX0_dropAt 75 = .ok (.iadd, 1) := by decide +kernel
theorem dX0_dropAt_76 : decode cX0_dropAt 76 = .ok (.iaload, 1) := by decide +kernel
theorem dX0_dropAt_77 : decode cX0_dropAt 77 = .ok (.iastore, 1) := by decide +kernel
theorem dX0_dropAt_78 : decode cX0_dropAt 78 = .ok (.iinc 2 1, 3) := by decide +kernel
theorem dX0_dropAt_81 : decode cX0_dropAt 81 = .ok (.goto (-66), 3) := by decide +kernel
theorem dX0_dropAt_84 : decode cX0_dropAt 84 = .ok (.aload_n 0, 1) := by decide +kernel
theorem dX0_dropAt_85 : decode cX0_dropAt 85 = .ok (.dup, 1) := by decide +kernel
theorem dX0_dropAt_86 : decode cX0_dropAt 86 = .ok (.getfield 9, 3) := by decide +kernel
theorem dX0_dropAt_89 : decode cX0_dropAt 89 = .ok (.iconst 1, 1) := by decide +kernel
theorem dX0_dropAt_90 : decode cX0_dropAt 90 = .ok (.isub, 1) := by decide +kernel
theorem dX0_dropAt_91 : decode cX0_dropAt 91 = .ok (.putfield 9, 3) := by decide +kernel
theorem dX0_dropAt_94 : decode cX0_dropAt 94 = .ok (.return_, 1) := by decide +kernel
theorem dX0_copyFrom_0 : decode cX0_copyFrom 0 = .ok (.aload_n 0, 1) := by decide +kernel
theorem dX0_copyFrom_1 : decode cX0_copyFrom 1 = .ok (.aload_n 1, 1) := by decide +kernel
theorem dX0_copyFrom_2 : decode cX0_copyFrom 2 = .ok (.getfield 9, 3) := by decide +kernel
theorem dX0_copyFrom_5 : decode cX0_copyFrom 5 = .ok (.aload_n 0, 1) := by decide +kernel
theorem dX0_copyFrom_6 : decode cX0_copyFrom 6 = .ok (.getfield 21, 3) := by decide +kernel
theorem dX0_copyFrom_9 : decode cX0_copyFrom 9 = .ok (.arraylength, 1) := by decide +kernel
theorem dX0_copyFrom_10 : decode cX0_copyFrom 10 = .ok (.invokestatic 31, 3) := by decide +kernel
theorem dX0_copyFrom_13 : decode cX0_copyFrom 13 = .ok (.putfield 9, 3) := by decide +kernel
theorem dX0_copyFrom_16 : decode cX0_copyFrom 16 = .ok (.iconst 0, 1) := by decide +kernel
theorem dX0_copyFrom_17 : decode cX0_copyFrom 17 = .ok (.istore_n 2, 1) := by decide +kernel
theorem dX0_copyFrom_18 : decode cX0_copyFrom 18 = .ok (.iload_n 2, 1) := by decide +kernel
theorem dX0_copyFrom_19 : decode cX0_copyFrom 19 = .ok (.aload_n 0, 1) := by decide +kernel
theorem dX0_copyFrom_20 : decode cX0_copyFrom 20 = .ok (.getfield 9, 3) := by decide +kernel
theorem dX0_copyFrom_23 : decode cX0_copyFrom 23 = .ok (.if_icmp .ge 54, 3) := by decide +kernel
theorem dX0_copyFrom_26 : decode cX0_copyFrom 26 = .ok (.iload_n 2, 1) := by decide +kernel
theorem dX0_copyFrom_27 : decode cX0_copyFrom 27 = .ok (.aload_n 1, 1) := by decide +kernel
theorem dX0_copyFrom_28 : decode cX0_copyFrom 28 = .ok (.getfield 21, 3) := by decide +kernel
theorem dX0_copyFrom_31 : decode cX0_copyFrom 31 = .ok (.arraylength, 1) := by decide +kernel
theorem dX0_copyFrom_32 : decode cX0_copyFrom 32 = .ok (.if_icmp .ge 45, 3) := by decide +kernel
theorem dX0_copyFrom_35 : decode cX0_copyFrom 35 = .ok (.aload_n 0, 1) := by decide +kernel
theorem dX0_copyFrom_36 : decode cX0_copyFrom 36 = .ok (.getfield 21, 3) := by decide +kernel
theorem dX0_copyFrom_39 : decode cX0_copyFrom 39 = .ok (.iload_n 2, 1) := by decide +kernel
theorem dX0_copyFrom_40 : decode cX0_copyFrom 40 = .ok (.aload_n 1, 1) := by decide +kernel
theorem dX0_copyFrom_41 : decode cX0_copyFrom 41 = .ok (.getfield 21, 3) := by decide +kernel
theorem dX0_copyFrom_44 : decode cX0_copyFrom 44 = .ok (.iload_n 2, 1) := by decide +kernel
theorem dX0_copyFrom_45 : decode cX0_copyFrom 45 = .ok (.iaload, 1) := by decide +kernel
theorem dX0_copyFrom_46 : decode cX0_copyFrom 46 = .ok (.iastore, 1) := by decide +kernel
theorem dX0_copyFrom_47 : decode cX0_copyFrom 47 = .ok (.aload_n 0, 1) := by decide +kernel
theorem dX0_copyFrom_48 : decode cX0_copyFrom 48 = .ok (.getfield 25, 3) := by decide +kernel
theorem dX0_copyFrom_51 : decode cX0_copyFrom 51 = .ok (.iload_n 2, 1) := by decide +kernel
theorem dX0_copyFrom_52 : decode cX0_copyFrom 52 = .ok (.aload_n 1, 1) := by decide +kernel
theorem dX0_copyFrom_53 : decode cX0_copyFrom 53 = .ok (.getfield 25, 3) := by decide +kernel
theorem dX0_copyFrom_56 : decode cX0_copyFrom 56 = .ok (.iload_n 2, 1) := by decide +kernel
theorem dX0_copyFrom_57 : decode cX0_copyFrom 57 = .ok (.iaload, 1) := by decide +kernel
theorem dX0_copyFrom_58 : decode cX0_copyFrom 58 = .ok (.iastore, 1) := by decide +kernel
theorem dX0_copyFrom_59 : decode cX0_copyFrom 59 = .ok (.aload_n 0, 1) := by decide +kernel
theorem dX0_copyFrom_60 : decode cX0_copyFrom 60 = .ok (.getfield 28, 3) := by decide +kernel
theorem dX0_copyFrom_63 : decode cX0_copyFrom 63 = .ok (.iload_n 2, 1) := by decide +kernel
theorem dX0_copyFrom_64 : decode cX0_copyFrom 64 = .ok (.aload_n 1, 1) := by decide +kernel
theorem dX0_copyFrom_65 : decode cX0_copyFrom 65 = .ok (.getfield 28, 3) := by decide +kernel
theorem dX0_copyFrom_68 : decode cX0_copyFrom 68 = .ok (.iload_n 2, 1) := by decide +kernel
theorem dX0_copyFrom_69 : decode cX0_copyFrom 69 = .ok (.iaload, 1) := by decide +kernel
theorem dX0_copyFrom_70 : decode cX0_copyFrom 70 = .ok (.iastore, 1) := by decide +kernel
theorem dX0_copyFrom_71 : decode cX0_copyFrom 71 = .ok (.iinc 2 1, 3) := by decide +kernel
theorem dX0_copyFrom_74 : decode cX0_copyFrom 74 = .ok (.goto (-56), 3) := by decide +kernel
theorem dX0_copyFrom_77 : decode cX0_copyFrom 77 = .ok (.return_, 1) := by decide +kernel
theorem dX1_init_0 : decode cX1_init 0 = .ok (.aload_n 0, 1) := by decide +kernel
theorem dX1_init_1 : decode cX1_init 1 = .ok (.invokespecial 3, 3) := by decide +kernel
theorem dX1_init_4 : decode cX1_init 4 = .ok (.aload_n 0, 1) := by decide +kernel
theorem dX1_init_5 : decode cX1_init 5 = .ok (.bipush 14, 2) := by decide +kernel
theorem dX1_init_7 : decode cX1_init 7 = .ok (.anewarray 9, 3) := by decide +kernel
theorem dX1_init_10 : decode cX1_init 10 = .ok (.putfield 11, 3) := by decide +kernel
theorem dX1_init_13 : decode cX1_init 13 = .ok (.aload_n 0, 1) := by decide +kernel
theorem dX1_init_14 : decode cX1_init 14 = .ok (.iconst 0, 1) := by decide +kernel
theorem dX1_init_15 : decode cX1_init 15 = .ok (.putfield 17, 3) := by decide +kernel
theorem dX1_init_18 : decode cX1_init 18 = .ok (.aload_n 0, 1) := by decide +kernel
theorem dX1_init_19 : decode cX1_init 19 = .ok (.iconst 0, 1) := by decide +kernel
theorem dX1_init_20 : decode cX1_init 20 = .ok (.putfield 21, 3) := by decide +kernel
theorem dX1_init_23 : decode cX1_init 23 = .ok (.iconst 0, 1) := by decide +kernel
theorem dX1_init_24 : decode cX1_init 24 = .ok (.istore_n 1, 1) := by decide +kernel
theorem dX1_init_25 : decode cX1_init 25 = .ok (.iload_n 1, 1) := by decide +kernel
theorem dX1_init_26 : decode cX1_init 26 = .ok (.bipush 14, 2) := by decide +kernel
theorem dX1_init_28 : decode cX1_init 28 = .ok (.if_icmp .ge 22, 3) := by decide +kernel
theorem dX1_init_31 : decode cX1_init 31 = .ok (.aload_n 0, 1) := by decide +kernel
theorem dX1_init_32 : decode cX1_init 32 = .ok (.getfield 11, 3) := by decide +kernel
theorem dX1_init_35 : decode cX1_init 35 = .ok (.iload_n 1, 1) := by decide +kernel
theorem dX1_init_36 : decode cX1_init 36 = .ok (.new 9, 3) := by decide +kernel
theorem dX1_init_39 : decode cX1_init 39 = .ok (.dup, 1) := by decide +kernel
theorem dX1_init_40 : decode cX1_init 40 = .ok (.invokespecial 24, 3) := by decide +kernel
theorem dX1_init_43 : decode cX1_init 43 = .ok (.aastore, 1) := by decide +kernel
theorem dX1_init_44 : decode cX1_init 44 = .ok (.iinc 1 1, 3) := by decide +kernel
theorem dX1_init_47 : decode cX1_init 47 = .ok (.goto (-22), 3) := by decide +kernel
theorem dX1_init_50 : decode cX1_init 50 = .ok (.return_, 1) := by decide +kernel
theorem dX1_remember_0 : decode cX1_remember 0 = .ok (.aload_n 0, 1) := by decide +kernel
theorem dX1_remember_1 : decode cX1_remember 1 = .ok (.getfield 17, 3) := by decide +kernel
theorem dX1_remember_4 : decode cX1_remember 4 = .ok (.ifCond .lt 28, 3) := by decide +kernel
theorem dX1_remember_7 : decode cX1_remember 7 = .ok (.aload_n 0, 1) := by decide +kernel
theorem dX1_remember_8 : decode cX1_remember 8 = .ok (.getfield 17, 3) := by decide +kernel
theorem dX1_remember_11 : decode cX1_remember 11 = .ok (.aload_n 0, 1) := by decide +kernel
theorem dX1_remember_12 : decode cX1_remember 12 = .ok (.getfield 11, 3) := by decide +kernel
theorem dX1_remember_15 : decode cX1_remember 15 = .ok (.arraylength, 1) := by decide +kernel
theorem dX1_remember_16 : decode cX1_remember 16 = .ok (.if_icmp .ge 16, 3) := by decide +kernel
theorem dX1_remember_19 : decode cX1_remember 19 = .ok (.aload_n 0, 1) := by decide +kernel
theorem dX1_remember_20 : decode cX1_remember 20 = .ok (.getfield 11, 3) := by decide +kernel
theorem dX1_remember_23 : decode cX1_remember 23 = .ok (.aload_n 0, 1) := by decide +kernel
theorem dX1_remember_24 : decode cX1_remember 24 = .ok (.getfield 17, 3) := by decide +kernel
theorem dX1_remember_27 : decode cX1_remember 27 = .ok (.aaload, 1) := by decide +kernel
theorem dX1_remember_28 : decode cX1_remember 28 = .ok (.aload_n 1, 1) := by decide +kernel
theorem dX1_remember_29 : decode cX1_remember 29 = .ok (.invokevirtual 25, 3) := by decide +kernel
theorem dX1_remember_32 : decode cX1_remember 32 = .ok (.aload_n 0, 1) := by decide +kernel
theorem dX1_remember_33 : decode cX1_remember 33 = .ok (.aload_n 0, 1) := by decide +kernel
theorem dX1_remember_34 : decode cX1_remember 34 = .ok (.getfield 17, 3) := by decide +kernel
theorem dX1_remember_37 : decode cX1_remember 37 = .ok (.iconst 1, 1) := by decide +kernel
theorem dX1_remember_38 : decode cX1_remember 38 = .ok (.iadd, 1) := by decide +kernel
theorem dX1_remember_39 : decode cX1_remember 39 = .ok (.bipush 14, 2) := by decide +kernel
theorem dX1_remember_41 : decode cX1_remember 41 = .ok (.irem, 1) := by decide +kernel
theorem dX1_remember_42 : decode cX1_remember 42 = .ok (.putfield 17, 3) := by decide +kernel
theorem dX1_remember_45 : decode cX1_remember 45 = .ok (.aload_n 0, 1) := by decide +kernel
theorem dX1_remember_46 : decode cX1_remember 46 = .ok (.aload_n 0, 1) := by decide +kernel
theorem dX1_remember_47 : decode cX1_remember 47 = .ok (.getfield 21, 3) := by decide +kernel
theorem dX1_remember_50 : decode cX1_remember 50 = .ok (.iconst 1, 1) := by decide +kernel
theorem dX1_remember_51 : decode cX1_remember 51 = .ok (.iadd, 1) := by decide +kernel
theorem dX1_remember_52 : decode cX1_remember 52 = .ok (.bipush 14, 2) := by decide +kernel
theorem dX1_remember_54 : decode cX1_remember 54 = .ok (.invokestatic 29, 3) := by decide +kernel
theorem dX1_remember_57 : decode cX1_remember 57 = .ok (.putfield 21, 3) := by decide +kernel
theorem dX1_remember_60 : decode cX1_remember 60 = .ok (.return_, 1) := by decide +kernel
theorem dX1_takeBack_0 : decode cX1_takeBack 0 = .ok (.aload_n 0, 1) := by decide +kernel
theorem dX1_takeBack_1 : decode cX1_takeBack 1 = .ok (.getfield 21, 3) := by decide +kernel
theorem dX1_takeBack_4 : decode cX1_takeBack 4 = .ok (.ifCond .le 61, 3) := by decide +kernel
theorem dX1_takeBack_7 : decode cX1_takeBack 7 = .ok (.aload_n 0, 1) := by decide +kernel
theorem dX1_takeBack_8 : decode cX1_takeBack 8 = .ok (.aload_n 0, 1) := by decide +kernel
theorem dX1_takeBack_9 : decode cX1_takeBack 9 = .ok (.getfield 17, 3) := by decide +kernel
theorem dX1_takeBack_12 : decode cX1_takeBack 12 = .ok (.bipush 14, 2) := by decide +kernel
theorem dX1_takeBack_14 : decode cX1_takeBack 14 = .ok (.iadd, 1) := by decide +kernel
theorem dX1_takeBack_15 : decode cX1_takeBack 15 = .ok (.iconst 1, 1) := by decide +kernel
theorem dX1_takeBack_16 : decode cX1_takeBack 16 = .ok (.isub, 1) := by decide +kernel
theorem dX1_takeBack_17 : decode cX1_takeBack 17 = .ok (.bipush 14, 2) := by decide +kernel
theorem dX1_takeBack_19 : decode cX1_takeBack 19 = .ok (.irem, 1) := by decide +kernel
theorem dX1_takeBack_20 : decode cX1_takeBack 20 = .ok (.putfield 17, 3) := by decide +kernel
theorem dX1_takeBack_23 : decode cX1_takeBack 23 = .ok (.aload_n 0, 1) := by decide +kernel
theorem dX1_takeBack_24 : decode cX1_takeBack 24 = .ok (.dup, 1) := by decide +kernel
theorem dX1_takeBack_25 : decode cX1_takeBack 25 = .ok (.getfield 21, 3) := by decide +kernel
theorem dX1_takeBack_28 : decode cX1_takeBack 28 = .ok (.iconst 1, 1) := by decide +kernel
theorem dX1_takeBack_29 : decode cX1_takeBack 29 = .ok (.isub, 1) := by decide +kernel
theorem dX1_takeBack_30 : decode cX1_takeBack 30 = .ok (.putfield 21, 3) := by decide +kernel
theorem dX1_takeBack_33 : decode cX1_takeBack 33 = .ok (.aload_n 0, 1) := by decide +kernel
theorem dX1_takeBack_34 : decode cX1_takeBack 34 = .ok (.getfield 17, 3) := by decide +kernel
theorem dX1_takeBack_37 : decode cX1_takeBack 37 = .ok (.ifCond .lt 28, 3) := by decide +kernel
theorem dX1_takeBack_40 : decode cX1_takeBack 40 = .ok (.aload_n 0, 1) := by decide +kernel
theorem dX1_takeBack_41 : decode cX1_takeBack 41 = .ok (.getfield 17, 3) := by decide +kernel
theorem dX1_takeBack_44 : decode cX1_takeBack 44 = .ok (.aload_n 0, 1) := by decide +kernel
theorem dX1_takeBack_45 : decode cX1_takeBack 45 = .ok (.getfield 11, 3) := by decide +kernel
theorem dX1_takeBack_48 : decode cX1_takeBack 48 = .ok (.arraylength, 1) := by decide +kernel
theorem dX1_takeBack_49 : decode cX1_takeBack 49 = .ok (.if_icmp .ge 16, 3) := by decide +kernel
theorem dX1_takeBack_52 : decode cX1_takeBack 52 = .ok (.aload_n 1, 1) := by decide +kernel
theorem dX1_takeBack_53 : decode cX1_takeBack 53 = .ok (.aload_n 0, 1) := by decide +kernel
theorem dX1_takeBack_54 : decode cX1_takeBack 54 = .ok (.getfield 11, 3) := by decide +kernel
theorem dX1_takeBack_57 : decode cX1_takeBack 57 = .ok (.aload_n 0, 1) := by decide +kernel
theorem dX1_takeBack_58 : decode cX1_takeBack 58 = .ok (.getfield 17, 3) := by decide +kernel
theorem dX1_takeBack_61 : decode cX1_takeBack 61 = .ok (.aaload, 1) := by decide +kernel
theorem dX1_takeBack_62 : decode cX1_takeBack 62 = .ok (.invokevirtual 25, 3) := by decide +kernel
theorem dX1_takeBack_65 : decode cX1_takeBack 65 = .ok (.return_, 1) := by decide +kernel
theorem dX1_forgetAll_0 : decode cX1_forgetAll 0 = .ok (.aload_n 0, 1) := by decide +kernel
theorem dX1_forgetAll_1 : decode cX1_forgetAll 1 = .ok (.iconst 0, 1) := by decide +kernel
theorem dX1_forgetAll_2 : decode cX1_forgetAll 2 = .ok (.putfield 21, 3) := by decide +kernel
theorem dX1_forgetAll_5 : decode cX1_forgetAll 5 = .ok (.return_, 1) := by decide +kernel
theorem dX2_init_0 : decode cX2_init 0 = .ok (.aload_n 0, 1) := by decide +kernel
theorem dX2_init_1 : decode cX2_init 1 = .ok (.invokespecial 3, 3) := by decide +kernel
theorem dX2_init_4 : decode cX2_init 4 = .ok (.aload_n 0, 1) := by decide +kernel
theorem dX2_init_5 : decode cX2_init 5 = .ok (.new 9, 3) := by decide +kernel
theorem dX2_init_8 : decode cX2_init 8 = .ok (.dup, 1) := by decide +kernel
theorem dX2_init_9 : decode cX2_init 9 = .ok (.bipush 6, 2) := by decide +kernel
theorem dX2_init_11 : decode cX2_init 11 = .ok (.invokespecial 11, 3) := by decide +kernel
theorem dX2_init_14 : decode cX2_init 14 = .ok (.putfield 14, 3) := by decide +kernel
theorem dX2_init_17 : decode cX2_init 17 = .ok (.aload_n 0, 1) := by decide +kernel
theorem dX2_init_18 : decode cX2_init 18 = .ok (.new 9, 3) := by decide +kernel
theorem dX2_init_21 : decode cX2_init 21 = .ok (.dup, 1) := by decide +kernel
theorem dX2_init_22 : decode cX2_init 22 = .ok (.bipush 6, 2) := by decide +kernel
theorem dX2_init_24 : decode cX2_init 24 = .ok (.invokespecial 11, 3) := by decide +kernel
theorem dX2_init_27 : decode cX2_init 27 = .ok (.putfield 20, 3) := by decide +kernel
theorem dX2_init_30 : decode cX2_init 30 = .ok (.aload_n 0, 1) := by decide +kernel
theorem dX2_init_31 : decode cX2_init 31 = .ok (.iload_n 1, 1) := by decide +kernel
theorem dX2_init_32 : decode cX2_init 32 = .ok (.putfield 23, 3) := by decide +kernel
theorem dX2_init_35 : decode cX2_init 35 = .ok (.return_, 1) := by decide +kernel
theorem dX2_begin_0 : decode cX2_begin 0 = .ok (.aload_n 0, 1) := by decide +kernel
theorem dX2_begin_1 : decode cX2_begin 1 = .ok (.getfield 14, 3) := by decide +kernel
theorem dX2_begin_4 : decode cX2_begin 4 = .ok (.iconst 0, 1) := by decide +kernel
theorem dX2_begin_5 : decode cX2_begin 5 = .ok (.putfield 27, 3) := by decide +kernel
theorem dX2_begin_8 : decode cX2_begin 8 = .ok (.aload_n 0, 1) := by decide +kernel
theorem dX2_begin_9 : decode cX2_begin 9 = .ok (.iconst 0, 1) := by decide +kernel
theorem dX2_begin_10 : decode cX2_begin 10 = .ok (.putfield 30, 3) := by decide +kernel
theorem dX2_begin_13 : decode cX2_begin 13 = .ok (.aload_n 0, 1) := by decide +kernel
theorem dX2_begin_14 : decode cX2_begin 14 = .ok (.iconst 1, 1) := by decide +kernel
theorem dX2_begin_15 : decode cX2_begin 15 = .ok (.putfield 33, 3) := by decide +kernel
theorem dX2_begin_18 : decode cX2_begin 18 = .ok (.aload_n 0, 1) := by decide +kernel
theorem dX2_begin_19 : decode cX2_begin 19 = .ok (.iconst 0, 1) := by decide +kernel
theorem dX2_begin_20 : decode cX2_begin 20 = .ok (.putfield 37, 3) := by decide +kernel
theorem dX2_begin_23 : decode cX2_begin 23 = .ok (.aload_n 0, 1) := by decide +kernel
theorem dX2_begin_24 : decode cX2_begin 24 = .ok (.iconst 0, 1) := by decide +kernel
theorem dX2_begin_25 : decode cX2_begin 25 = .ok (.putfield 40, 3) := by decide +kernel
theorem dX2_begin_28 : decode cX2_begin 28 = .ok (.aload_n 0, 1) := by decide +kernel
theorem dX2_begin_29 : decode cX2_begin 29 = .ok (.iconst 0, 1) := by decide +kernel
theorem dX2_begin_30 : decode cX2_begin 30 = .ok (.putfield 43, 3) := by decide +kernel
theorem dX2_begin_33 : decode cX2_begin 33 = .ok (.aload_n 0, 1) := by decide +kernel
theorem dX2_begin_34 : decode cX2_begin 34 = .ok (.iconst 0, 1) := by decide +kernel
theorem dX2_begin_35 : decode cX2_begin 35 = .ok (.putfield 46, 3) := by decide +kernel
theorem dX2_begin_38 : decode cX2_begin 38 = .ok (.aload_n 0, 1) := by decide +kernel
theorem dX2_begin_39 : decode cX2_begin 39 = .ok (.getfield 20, 3) := by decide +kernel
theorem dX2_begin_42 : decode cX2_begin 42 = .ok (.iconst 0, 1) := by decide +kernel
theorem dX2_begin_43 : decode cX2_begin 43 = .ok (.putfield 27, 3) := by decide +kernel
theorem dX2_begin_46 : decode cX2_begin 46 = .ok (.aload_n 0, 1) := by decide +kernel
theorem dX2_begin_47 : decode cX2_begin 47 = .ok (.iconst 0, 1) := by decide +kernel
theorem dX2_begin_48 : decode cX2_begin 48 = .ok (.putfield 49, 3) := by decide +kernel
theorem dX2_begin_51 : decode cX2_begin 51 = .ok (.aload_n 0, 1) := by decide +kernel
theorem dX2_begin_52 : decode cX2_begin 52 = .ok (.iconst 0, 1) := by decide +kernel
theorem dX2_begin_53 : decode cX2_begin 53 = .ok (.putfield 52, 3) := by decide +kernel
theorem dX2_begin_56 : decode cX2_begin 56 = .ok (.aload_n 0, 1) := by decide +kernel
theorem dX2_begin_57 : decode cX2_begin 57 = .ok (.iconst 0, 1) := by decide +kernel
theorem dX2_begin_58 : decode cX2_begin 58 = .ok (.putfield 55, 3) := by decide +kernel
theorem dX2_begin_61 : decode cX2_begin 61 = .ok (.aload_n 0, 1) := by decide +kernel
theorem dX2_begin_62 : decode cX2_begin 62 = .ok (.iconst (-1), 1) := by decide +kernel
theorem dX2_begin_63 : decode cX2_begin 63 = .ok (.putfield 58, 3) := by decide +kernel
theorem dX2_begin_66 : decode cX2_begin 66 = .ok (.aload_n 0, 1) := by decide +kernel
theorem dX2_begin_67 : decode cX2_begin 67 = .ok (.iconst 0, 1) := by decide +kernel
theorem dX2_begin_68 : decode cX2_begin 68 = .ok (.putfield 61, 3) := by decide +kernel
theorem dX2_begin_71 : decode cX2_begin 71 = .ok (.return_, 1) := by decide +kernel
theorem dX2_copyFrom_0 : decode cX2_copyFrom 0 = .ok (.aload_n 0, 1) := by decide +kernel
theorem dX2_copyFrom_1 : decode cX2_copyFrom 1 = .ok (.getfield 14, 3) := by decide +kernel
theorem dX2_copyFrom_4 : decode cX2_copyFrom 4 = .ok (.aload_n 1, 1) := by decide +kernel
theorem dX2_copyFrom_5 : decode cX2_copyFrom 5 = .ok (.getfield 14, 3) := by decide +kernel
theorem dX2_copyFrom_8 : decode cX2_copyFrom 8 = .ok (.invokevirtual 64, 3) := by decide +kernel
theorem dX2_copyFrom_11 : decode cX2_copyFrom 11 = .ok (.aload_n 0, 1) := by decide +kernel
theorem dX2_copyFrom_12 : decode cX2_copyFrom 12 = .ok (.aload_n 1, 1) := by decide +kernel
theorem dX2_copyFrom_13 : decode cX2_copyFrom 13 = .ok (.getfield 30, 3) := by decide +kernel
theorem dX2_copyFrom_16 : decode cX2_copyFrom 16 = .ok (.putfield 30, 3) := by decide +kernel
theorem dX2_copyFrom_19 : decode cX2_copyFrom 19 = .ok (.aload_n 0, 1) := by decide +kernel
theorem dX2_copyFrom_20 : decode cX2_copyFrom 20 = .ok (.aload_n 1, 1) := by decide +kernel
theorem dX2_copyFrom_21 : decode cX2_copyFrom 21 = .ok (.getfield 33, 3) := by decide +kernel
theorem dX2_copyFrom_24 : decode cX2_copyFrom 24 = .ok (.putfield 33, 3) := by decide +kernel
theorem dX2_copyFrom_27 : decode cX2_copyFrom 27 = .ok (.aload_n 0, 1) := by decide +kernel
theorem dX2_copyFrom_28 : decode cX2_copyFrom 28 = .ok (.aload_n 1, 1) := by decide +kernel
theorem dX2_copyFrom_29 : decode cX2_copyFrom 29 = .ok (.getfield 37, 3) := by decide +kernel
theorem dX2_copyFrom_32 : decode cX2_copyFrom 32 = .ok (.putfield 37, 3) := by decide +kernel
theorem dX2_copyFrom_35 : decode cX2_copyFrom 35 = .ok (.aload_n 0, 1) := by decide +kernel
theorem dX2_copyFrom_36 : decode cX2_copyFrom 36 = .ok (.aload_n 1, 1) := by decide +kernel
theorem dX2_copyFrom_37 : decode cX2_copyFrom 37 = .ok (.getfield 40, 3) := by decide +kernel
theorem dX2_copyFrom_40 : decode cX2_copyFrom 40 = .ok (.putfield 40, 3) := by decide +kernel
theorem dX2_copyFrom_43 : decode cX2_copyFrom 43 = .ok (.aload_n 0, 1) := by decide +kernel
theorem dX2_copyFrom_44 : decode cX2_copyFrom 44 = .ok (.aload_n 1, 1) := by decide +kernel
theorem dX2_copyFrom_45 : decode cX2_copyFrom 45 = .ok (.getfield 43, 3) := by decide +kernel
theorem dX2_copyFrom_48 : decode cX2_copyFrom 48 = .ok (.putfield 43, 3) := by decide +kernel
theorem dX2_copyFrom_51 : decode cX2_copyFrom 51 = .ok (.aload_n 0, 1) := by decide +kernel
theorem dX2_copyFrom_52 : decode cX2_copyFrom 52 = .ok (.aload_n 1, 1) := by decide +kernel
theorem dX2_copyFrom_53 : decode cX2_copyFrom 53 = .ok (.getfield 46, 3) := by decide +kernel
theorem dX2_copyFrom_56 : decode cX2_copyFrom 56 = .ok (.putfield 46, 3) := by decide +kernel
theorem dX2_copyFrom_59 : decode cX2_copyFrom 59 = .ok (.aload_n 0, 1) := by decide +kernel
theorem dX2_copyFrom_60 : decode cX2_copyFrom 60 = .ok (.getfield 20, 3) := by decide +kernel
theorem dX2_copyFrom_63 : decode cX2_copyFrom 63 = .ok (.aload_n 1, 1) := by decide +kernel
theorem dX2_copyFrom_64 : decode cX2_copyFrom 64 = .ok (.getfield 20, 3) := by decide +kernel
theorem dX2_copyFrom_67 : decode cX2_copyFrom 67 = .ok (.invokevirtual 64, 3) := by decide +kernel
theorem dX2_copyFrom_70 : decode cX2_copyFrom 70 = .ok (.aload_n 0, 1) := by decide +kernel
theorem dX2_copyFrom_71 : decode cX2_copyFrom 71 = .ok (.aload_n 1, 1) := by decide +kernel
theorem dX2_copyFrom_72 : decode cX2_copyFrom 72 = .ok (.getfield 49, 3) := by decide +kernel
theorem dX2_copyFrom_75 : decode cX2_copyFrom 75 = .ok (.putfield 49, 3) := by decide +kernel
theorem dX2_copyFrom_78 : decode cX2_copyFrom 78 = .ok (.aload_n 0, 1) := by decide +kernel
theorem dX2_copyFrom_79 : decode cX2_copyFrom 79 = .ok (.aload_n 1, 1) := by decide +kernel
theorem dX2_copyFrom_80 : decode cX2_copyFrom 80 = .ok (.getfield 52, 3) := by decide +kernel
theorem dX2_copyFrom_83 : decode cX2_copyFrom 83 = .ok (.putfield 52, 3) := by decide +kernel
theorem dX2_copyFrom_86 : decode cX2_copyFrom 86 = .ok (.aload_n 0, 1) := by decide +kernel
theorem dX2_copyFrom_87 : decode cX2_copyFrom 87 = .ok (.aload_n 1, 1) := by decide +kernel
theorem dX2_copyFrom_88 : decode cX2_copyFrom 88 = .ok (.getfield 55, 3) := by decide +kernel
theorem dX2_copyFrom_91 : decode cX2_copyFrom 91 = .ok (.putfield 55, 3) := by decide +kernel
theorem dX2_copyFrom_94 : decode cX2_copyFrom 94 = .ok (.aload_n 0, 1) := by decide +kernel
theorem dX2_copyFrom_95 : decode cX2_copyFrom 95 = .ok (.aload_n 1, 1) := by decide +kernel
theorem dX2_copyFrom_96 : decode cX2_copyFrom 96 = .ok (.getfield 58, 3) := by decide +kernel
theorem dX2_copyFrom_99 : decode cX2_copyFrom 99 = .ok (.putfield 58, 3) := by decide +kernel
theorem dX2_copyFrom_102 : decode cX2_copyFrom 102 = .ok (.aload_n 0, 1) := by decide +kernel
theorem dX2_copyFrom_103 : decode cX2_copyFrom 103 = .ok (.aload_n 1, 1) := by decide +kernel
theorem dX2_copyFrom_104 : decode cX2_copyFrom 104 = .ok (.getfield 61, 3) := by decide +kernel
theorem dX2_copyFrom_107 : decode cX2_copyFrom 107 = .ok (.putfield 61, 3) := by decide +kernel
theorem dX2_copyFrom_110 : decode cX2_copyFrom 110 = .ok (.return_, 1) := by decide +kernel
theorem dX2_numberOfWriter_0 : decode cX2_numberOfWriter 0 = .ok (.iload_n 1, 1) := by decide +kernel
theorem dX2_numberOfWriter_1 : decode cX2_numberOfWriter 1 = .ok (.tableswitch 80 0 5 #[39, 44, 52, 65, 70, 75], 39) := by decide +kernel
theorem dX2_numberOfWriter_40 : decode cX2_numberOfWriter 40 = .ok (.aload_n 0, 1) := by decide +kernel
theorem dX2_numberOfWriter_41 : decode cX2_numberOfWriter 41 = .ok (.getfield 30, 3) := by decide +kernel
theorem dX2_numberOfWriter_44 : decode cX2_numberOfWriter 44 = .ok (.ireturn, 1) := by decide +kernel
theorem dX2_numberOfWriter_45 : decode cX2_numberOfWriter 45 = .ok (.aload_n 0, 1) := by decide +kernel
theorem dX2_numberOfWriter_46 : decode cX2_numberOfWriter 46 = .ok (.getfield 14, 3) := by decide +kernel
theorem dX2_numberOfWriter_49 : decode cX2_numberOfWriter 49 = .ok (.getfield 27, 3) := by decide +kernel
theorem dX2_numberOfWriter_52 : decode cX2_numberOfWriter 52 = .ok (.ireturn, 1) := by decide +kernel
theorem dX2_numberOfWriter_53 : decode cX2_numberOfWriter 53 = .ok (.aload_n 0, 1) := by decide +kernel
theorem dX2_numberOfWriter_54 : decode cX2_numberOfWriter 54 = .ok (.getfield 33, 3) := by decide +kernel
theorem dX2_numberOfWriter_57 : decode cX2_numberOfWriter 57 = .ok (.ifCond .eq 7, 3) := by decide +kernel
theorem dX2_numberOfWriter_60 : decode cX2_numberOfWriter 60 = .ok (.iconst 1, 1) := by decide +kernel
theorem dX2_numberOfWriter_61 : decode cX2_numberOfWriter 61 = .ok (.goto 4, 3) := by decide +kernel
theorem dX2_numberOfWriter_64 : decode cX2_numberOfWriter 64 = .ok (.iconst 0, 1) := by decide +kernel
theorem dX2_numberOfWriter_65 : decode cX2_numberOfWriter 65 = .ok (.ireturn, 1) := by decide +kernel
theorem dX2_numberOfWriter_66 : decode cX2_numberOfWriter 66 = .ok (.aload_n 0, 1) := by decide +kernel
theorem dX2_numberOfWriter_67 : decode cX2_numberOfWriter 67 = .ok (.getfield 37, 3) := by decide +kernel
theorem dX2_numberOfWriter_70 : decode cX2_numberOfWriter 70 = .ok (.ireturn, 1) := by decide +kernel
theorem dX2_numberOfWriter_71 : decode cX2_numberOfWriter 71 = .ok (.aload_n 0, 1) := by decide +kernel
theorem dX2_numberOfWriter_72 : decode cX2_numberOfWriter 72 = .ok (.getfield 40, 3) := by decide +kernel
theorem dX2_numberOfWriter_75 : decode cX2_numberOfWriter 75 = .ok (.ireturn, 1) := by decide +kernel
theorem dX2_numberOfWriter_76 : decode cX2_numberOfWriter 76 = .ok (.aload_n 0, 1) := by decide +kernel
theorem dX2_numberOfWriter_77 : decode cX2_numberOfWriter 77 = .ok (.getfield 46, 3) := by decide +kernel
theorem dX2_numberOfWriter_80 : decode cX2_numberOfWriter 80 = .ok (.ireturn, 1) := by decide +kernel
theorem dX2_numberOfWriter_81 : decode cX2_numberOfWriter 81 = .ok (.aload_n 0, 1) := by decide +kernel
theorem dX2_numberOfWriter_82 : decode cX2_numberOfWriter 82 = .ok (.getfield 43, 3) := by decide +kernel
theorem dX2_numberOfWriter_85 : decode cX2_numberOfWriter 85 = .ok (.ireturn, 1) := by decide +kernel
theorem dX2_numberOfDesk_0 : decode cX2_numberOfDesk 0 = .ok (.iload_n 1, 1) := by decide +kernel
theorem dX2_numberOfDesk_1 : decode cX2_numberOfDesk 1 = .ok (.tableswitch 60 0 4 #[35, 40, 45, 50, 55], 35) := by decide +kernel
theorem dX2_numberOfDesk_36 : decode cX2_numberOfDesk 36 = .ok (.aload_n 0, 1) := by decide +kernel
theorem dX2_numberOfDesk_37 : decode cX2_numberOfDesk 37 = .ok (.getfield 49, 3) := by decide +kernel
theorem dX2_numberOfDesk_40 : decode cX2_numberOfDesk 40 = .ok (.ireturn, 1) := by decide +kernel
theorem dX2_numberOfDesk_41 : decode cX2_numberOfDesk 41 = .ok (.aload_n 0, 1) := by decide +kernel
theorem dX2_numberOfDesk_42 : decode cX2_numberOfDesk 42 = .ok (.getfield 52, 3) := by decide +kernel
theorem dX2_numberOfDesk_45 : decode cX2_numberOfDesk 45 = .ok (.ireturn, 1) := by decide +kernel
theorem dX2_numberOfDesk_46 : decode cX2_numberOfDesk 46 = .ok (.aload_n 0, 1) := by decide +kernel
theorem dX2_numberOfDesk_47 : decode cX2_numberOfDesk 47 = .ok (.getfield 55, 3) := by decide +kernel
theorem dX2_numberOfDesk_50 : decode cX2_numberOfDesk 50 = .ok (.ireturn, 1) := by decide +kernel
theorem dX2_numberOfDesk_51 : decode cX2_numberOfDesk 51 = .ok (.aload_n 0, 1) := by decide +kernel
theorem dX2_numberOfDesk_52 : decode cX2_numberOfDesk 52 = .ok (.getfield 58, 3) := by decide +kernel
theorem dX2_numberOfDesk_55 : decode cX2_numberOfDesk 55 = .ok (.ireturn, 1) := by decide +kernel
theorem dX2_numberOfDesk_56 : decode cX2_numberOfDesk 56 = .ok (.aload_n 0, 1) := by decide +kernel
theorem dX2_numberOfDesk_57 : decode cX2_numberOfDesk 57 = .ok (.getfield 61, 3) := by decide +kernel
theorem dX2_numberOfDesk_60 : decode cX2_numberOfDesk 60 = .ok (.ireturn, 1) := by decide +kernel
theorem dX2_numberOfDesk_61 : decode cX2_numberOfDesk 61 = .ok (.aload_n 0, 1) := by decide +kernel
theorem dX2_numberOfDesk_62 : decode cX2_numberOfDesk 62 = .ok (.getfield 20, 3) := by decide +kernel
theorem dX2_numberOfDesk_65 : decode cX2_numberOfDesk 65 = .ok (.getfield 27, 3) := by decide +kernel
theorem dX2_numberOfDesk_68 : decode cX2_numberOfDesk 68 = .ok (.ireturn, 1) := by decide +kernel
theorem dX2_hasRoomFor_0 : decode cX2_hasRoomFor 0 = .ok (.aload_n 0, 1) := by decide +kernel
theorem dX2_hasRoomFor_1 : decode cX2_hasRoomFor 1 = .ok (.getfield 30, 3) := by decide +kernel
theorem dX2_hasRoomFor_4 : decode cX2_hasRoomFor 4 = .ok (.iload_n 1, 1) := by decide +kernel
theorem dX2_hasRoomFor_5 : decode cX2_hasRoomFor 5 = .ok (.iadd, 1) := by decide +kernel
theorem dX2_hasRoomFor_6 : decode cX2_hasRoomFor 6 = .ok (.sipush 9999, 3) := by decide +kernel
theorem dX2_hasRoomFor_9 : decode cX2_hasRoomFor 9 = .ok (.if_icmp .gt 7, 3) := by decide +kernel
theorem dX2_hasRoomFor_12 : decode cX2_hasRoomFor 12 = .ok (.iconst 1, 1) := by decide +kernel
theorem dX2_hasRoomFor_13 : decode cX2_hasRoomFor 13 = .ok (.goto 4, 3) := by decide +kernel
theorem dX2_hasRoomFor_16 : decode cX2_hasRoomFor 16 = .ok (.iconst 0, 1) := by decide +kernel
theorem dX2_hasRoomFor_17 : decode cX2_hasRoomFor 17 = .ok (.ireturn, 1) := by decide +kernel
theorem dX2_addNote_0 : decode cX2_addNote 0 = .ok (.aload_n 0, 1) := by decide +kernel
theorem dX2_addNote_1 : decode cX2_addNote 1 = .ok (.dup, 1) := by decide +kernel
theorem dX2_addNote_2 : decode cX2_addNote 2 = .ok (.getfield 30, 3) := by decide +kernel
theorem dX2_addNote_5 : decode cX2_addNote 5 = .ok (.iload_n 1, 1) := by decide +kernel
theorem dX2_addNote_6 : decode cX2_addNote 6 = .ok (.iadd, 1) := by decide +kernel
theorem dX2_addNote_7 : decode cX2_addNote 7 = .ok (.putfield 30, 3) := by decide +kernel
theorem dX2_addNote_10 : decode cX2_addNote 10 = .ok (.aload_n 0, 1) := by decide +kernel
theorem dX2_addNote_11 : decode cX2_addNote 11 = .ok (.dup, 1) := by decide +kernel
theorem dX2_addNote_12 : decode cX2_addNote 12 = .ok (.getfield 37, 3) := by decide +kernel
theorem dX2_addNote_15 : decode cX2_addNote 15 = .ok (.iload_n 1, 1) := by decide +kernel
theorem dX2_addNote_16 : decode cX2_addNote 16 = .ok (.iadd, 1) := by decide +kernel
theorem dX2_addNote_17 : decode cX2_addNote 17 = .ok (.putfield 37, 3) := by decide +kernel
theorem dX2_addNote_20 : decode cX2_addNote 20 = .ok (.return_, 1) := by decide +kernel
theorem dX2_sendLetters_0 : decode cX2_sendLetters 0 = .ok (.aload_n 0, 1) := by decide +kernel
theorem dX2_sendLetters_1 : decode cX2_sendLetters 1 = .ok (.getfield 40, 3) := by decide +kernel
theorem dX2_sendLetters_4 : decode cX2_sendLetters 4 = .ok (.istore 4, 2) := by decide +kernel
theorem dX2_sendLetters_6 : decode cX2_sendLetters 6 = .ok (.aload_n 2, 1) := by decide +kernel
theorem dX2_sendLetters_7 : decode cX2_sendLetters 7 = .ok (.iconst 3, 1) := by decide +kernel
theorem dX2_sendLetters_8 : decode cX2_sendLetters 8 = .ok (.iaload, 1) := by decide +kernel
theorem dX2_sendLetters_9 : decode cX2_sendLetters 9 = .ok (.aload_n 0, 1) := by decide +kernel
theorem dX2_sendLetters_10 : decode cX2_sendLetters 10 = .ok (.getfield 14, 3) := by decide +kernel
theorem dX2_sendLetters_13 : decode cX2_sendLetters 13 = .ok (.getfield 27, 3) := by decide +kernel
theorem dX2_sendLetters_16 : decode cX2_sendLetters 16 = .ok (.isub, 1) := by decide +kernel
theorem dX2_sendLetters_17 : decode cX2_sendLetters 17 = .ok (.istore 5, 2) := by decide +kernel
theorem dX2_sendLetters_19 : decode cX2_sendLetters 19 = .ok (.iload 5, 2) := by decide +kernel
theorem dX2_sendLetters_21 : decode cX2_sendLetters 21 = .ok (.ifCond .le 89, 3) := by decide +kernel
theorem dX2_sendLetters_24 : decode cX2_sendLetters 24 = .ok (.aload_n 0, 1) := by decide +kernel
theorem dX2_sendLetters_25 : decode cX2_sendLetters 25 = .ok (.aload_n 2, 1) := by decide +kernel
theorem dX2_sendLetters_26 : decode cX2_sendLetters 26 = .ok (.iconst 2, 1) := by decide +kernel
theorem dX2_sendLetters_27 : decode cX2_sendLetters 27 = .ok (.iaload, 1) := by decide +kernel
theorem dX2_sendLetters_28 : decode cX2_sendLetters 28 = .ok (.iload_n 3, 1) := by decide +kernel
theorem dX2_sendLetters_29 : decode cX2_sendLetters 29 = .ok (.invokevirtual 68, 3) := by decide +kernel
theorem dX2_sendLetters_32 : decode cX2_sendLetters 32 = .ok (.istore 6, 2) := by decide +kernel
theorem dX2_sendLetters_34 : decode cX2_sendLetters 34 = .ok (.iload 6, 2) := by decide +kernel
theorem dX2_sendLetters_36 : decode cX2_sendLetters 36 = .ok (.ifCond .ne 6, 3) := by decide +kernel
theorem dX2_sendLetters_39 : decode cX2_sendLetters 39 = .ok (.goto 71, 3) := by decide +kernel
theorem dX2_sendLetters_42 : decode cX2_sendLetters 42 = .ok (.aload_n 0, 1) := by decide +kernel
theorem dX2_sendLetters_43 : decode cX2_sendLetters 43 = .ok (.getfield 14, 3) := by decide +kernel
theorem dX2_sendLetters_46 : decode cX2_sendLetters 46 = .ok (.aload_n 0, 1) := by decide +kernel
theorem dX2_sendLetters_47 : decode cX2_sendLetters 47 = .ok (.getfield 14, 3) := by decide +kernel
theorem dX2_sendLetters_50 : decode cX2_sendLetters 50 = .ok (.getfield 27, 3) := by decide +kernel
theorem dX2_sendLetters_53 : decode cX2_sendLetters 53 = .ok (.iconst 1, 1) := by decide +kernel
theorem dX2_sendLetters_54 : decode cX2_sendLetters 54 = .ok (.isub, 1) := by decide +kernel
theorem dX2_sendLetters_55 : decode cX2_sendLetters 55 = .ok (.invokevirtual 72, 3) := by decide +kernel
theorem dX2_sendLetters_58 : decode cX2_sendLetters 58 = .ok (.istore 7, 2) := by decide +kernel
theorem dX2_sendLetters_60 : decode cX2_sendLetters 60 = .ok (.aload_n 0, 1) := by decide +kernel
theorem dX2_sendLetters_61 : decode cX2_sendLetters 61 = .ok (.getfield 14, 3) := by decide +kernel
theorem dX2_sendLetters_64 : decode cX2_sendLetters 64 = .ok (.iload_n 1, 1) := by decide +kernel
theorem dX2_sendLetters_65 : decode cX2_sendLetters 65 = .ok (.aload_n 2, 1) := by decide +kernel
theorem dX2_sendLetters_66 : decode cX2_sendLetters 66 = .ok (.iconst 0, 1) := by decide +kernel
theorem dX2_sendLetters_67 : decode cX2_sendLetters 67 = .ok (.iaload, 1) := by decide +kernel
theorem dX2_sendLetters_68 : decode cX2_sendLetters 68 = .ok (.iadd, 1) := by decide +kernel
theorem dX2_sendLetters_69 : decode cX2_sendLetters 69 = .ok (.iload 7, 2) := by decide +kernel
theorem dX2_sendLetters_71 : decode cX2_sendLetters 71 = .ok (.invokestatic 76, 3) := by decide +kernel
theorem dX2_sendLetters_74 : decode cX2_sendLetters 74 = .ok (.aload_n 0, 1) := by decide +kernel
theorem dX2_sendLetters_75 : decode cX2_sendLetters 75 = .ok (.getfield 23, 3) := by decide +kernel
theorem dX2_sendLetters_78 : decode cX2_sendLetters 78 = .ok (.iload 6, 2) := by decide +kernel
theorem dX2_sendLetters_80 : decode cX2_sendLetters 80 = .ok (.invokevirtual 82, 3) := by decide +kernel
theorem dX2_sendLetters_83 : decode cX2_sendLetters 83 = .ok (.aload_n 0, 1) := by decide +kernel
theorem dX2_sendLetters_84 : decode cX2_sendLetters 84 = .ok (.dup, 1) := by decide +kernel
theorem dX2_sendLetters_85 : decode cX2_sendLetters 85 = .ok (.getfield 30, 3) := by decide +kernel
theorem dX2_sendLetters_88 : decode cX2_sendLetters 88 = .ok (.iload 6, 2) := by decide +kernel
theorem dX2_sendLetters_90 : decode cX2_sendLetters 90 = .ok (.isub, 1) := by decide +kernel
theorem dX2_sendLetters_91 : decode cX2_sendLetters 91 = .ok (.putfield 30, 3) := by decide +kernel
theorem dX2_sendLetters_94 : decode cX2_sendLetters 94 = .ok (.aload_n 0, 1) := by decide +kernel
theorem dX2_sendLetters_95 : decode cX2_sendLetters 95 = .ok (.dup, 1) := by decide +kernel
theorem dX2_sendLetters_96 : decode cX2_sendLetters 96 = .ok (.getfield 40, 3) := by decide +kernel
theorem dX2_sendLetters_99 : decode cX2_sendLetters 99 = .ok (.iconst 1, 1) := by decide +kernel
theorem dX2_sendLetters_100 : decode cX2_sendLetters 100 = .ok (.iadd, 1) := by decide +kernel
theorem dX2_sendLetters_101 : decode cX2_sendLetters 101 = .ok (.putfield 40, 3) := by decide +kernel
theorem dX2_sendLetters_104 : decode cX2_sendLetters 104 = .ok (.iinc 5 (-1), 3) := by decide +kernel
theorem dX2_sendLetters_107 : decode cX2_sendLetters 107 = .ok (.goto (-88), 3) := by decide +kernel
theorem dX2_sendLetters_110 : decode cX2_sendLetters 110 = .ok (.aload_n 0, 1) := by decide +kernel
theorem dX2_sendLetters_111 : decode cX2_sendLetters 111 = .ok (.getfield 40, 3) := by decide +kernel
theorem dX2_sendLetters_114 : decode cX2_sendLetters 114 = .ok (.iload 4, 2) := by decide +kernel
theorem dX2_sendLetters_116 : decode cX2_sendLetters 116 = .ok (.isub, 1) := by decide +kernel
theorem dX2_sendLetters_117 : decode cX2_sendLetters 117 = .ok (.ireturn, 1) := by decide +kernel
theorem dX2_signsOfNextLetter_0 : decode cX2_signsOfNextLetter 0 = .ok (.aload_n 0, 1) := by decide +kernel
theorem dX2_signsOfNextLetter_1 : decode cX2_signsOfNextLetter 1 = .ok (.getfield 30, 3) := by decide +kernel
theorem dX2_signsOfNextLetter_4 : decode cX2_signsOfNextLetter 4 = .ok (.iload_n 1, 1) := by decide +kernel
theorem dX2_signsOfNextLetter_5 : decode cX2_signsOfNextLetter 5 = .ok (.if_icmp .lt 5, 3) := by decide +kernel
theorem dX2_signsOfNextLetter_8 : decode cX2_signsOfNextLetter 8 = .ok (.iload_n 1, 1) := by decide +kernel
theorem dX2_signsOfNextLetter_9 : decode cX2_signsOfNextLetter 9 = .ok (.ireturn, 1) := by decide +kernel
theorem dX2_signsOfNextLetter_10 : decode cX2_signsOfNextLetter 10 = .ok (.iload_n 2, 1) := by decide +kernel
theorem dX2_signsOfNextLetter_11 : decode cX2_signsOfNextLetter 11 = .ok (.ifCond .eq 13, 3) := by decide +kernel
theorem dX2_signsOfNextLetter_14 : decode cX2_signsOfNextLetter 14 = .ok (.aload_n 0, 1) := by decide +kernel
theorem dX2_signsOfNextLetter_15 : decode cX2_signsOfNextLetter 15 = .ok (.getfield 14, 3) := by decide +kernel
theorem dX2_signsOfNextLetter_18 : decode cX2_signsOfNextLetter 18 = .ok (.getfield 27, 3) := by decide +kernel
theorem dX2_signsOfNextLetter_21 : decode cX2_signsOfNextLetter 21 = .ok (.ifCond .ne 10, 3) := by decide +kernel
theorem dX2_signsOfNextLetter_24 : decode cX2_signsOfNextLetter 24 = .ok (.aload_n 0, 1) := by decide +kernel
theorem dX2_signsOfNextLetter_25 : decode cX2_signsOfNextLetter 25 = .ok (.getfield 30, 3) := by decide +kernel
theorem dX2_signsOfNextLetter_28 : decode cX2_signsOfNextLetter 28 = .ok (.goto 4, 3) := by decide +kernel
theorem dX2_signsOfNextLetter_31 : decode cX2_signsOfNextLetter 31 = .ok (.iconst 0, 1) := by decide +kernel
theorem dX2_signsOfNextLetter_32 : decode cX2_signsOfNextLetter 32 = .ok (.ireturn, 1) := by decide +kernel
theorem dX2_receiveLetters_0 : decode cX2_receiveLetters 0 = .ok (.aload_n 0, 1) := by decide +kernel
theorem dX2_receiveLetters_1 : decode cX2_receiveLetters 1 = .ok (.getfield 49, 3) := by decide +kernel
theorem dX2_receiveLetters_4 : decode cX2_receiveLetters 4 = .ok (.istore_n 3, 1) := by decide +kernel
theorem dX2_receiveLetters_5 : decode cX2_receiveLetters 5 = .ok (.aload_n 0, 1) := by decide +kernel
theorem dX2_receiveLetters_6 : decode cX2_receiveLetters 6 = .ok (.getfield 52, 3) := by decide +kernel
theorem dX2_receiveLetters_9 : decode cX2_receiveLetters 9 = .ok (.aload_n 0, 1) := by decide +kernel
theorem dX2_receiveLetters_10 : decode cX2_receiveLetters 10 = .ok (.getfield 43, 3) := by decide +kernel
theorem dX2_receiveLetters_13 : decode cX2_receiveLetters 13 = .ok (.isub, 1) := by decide +kernel
theorem dX2_receiveLetters_14 : decode cX2_receiveLetters 14 = .ok (.istore 4, 2) := by decide +kernel
theorem dX2_receiveLetters_16 : decode cX2_receiveLetters 16 = .ok (.iload 4, 2) := by decide +kernel
theorem dX2_receiveLetters_18 : decode cX2_receiveLetters 18 = .ok (.aload_n 0, 1) := by decide +kernel
theorem dX2_receiveLetters_19 : decode cX2_receiveLetters 19 = .ok (.getfield 14, 3) := by decide +kernel
theorem dX2_receiveLetters_22 : decode cX2_receiveLetters 22 = .ok (.getfield 27, 3) := by decide +kernel
theorem dX2_receiveLetters_25 : decode cX2_receiveLetters 25 = .ok (.if_icmp .ge 102, 3) := by decide +kernel
theorem dX2_receiveLetters_28 : decode cX2_receiveLetters 28 = .ok (.aload_n 0, 1) := by decide +kernel
theorem dX2_receiveLetters_29 : decode cX2_receiveLetters 29 = .ok (.getfield 14, 3) := by decide +kernel
theorem dX2_receiveLetters_32 : decode cX2_receiveLetters 32 = .ok (.iload 4, 2) := by decide +kernel
theorem dX2_receiveLetters_34 : decode cX2_receiveLetters 34 = .ok (.invokevirtual 72, 3) := by decide +kernel
theorem dX2_receiveLetters_37 : decode cX2_receiveLetters 37 = .ok (.iload_n 1, 1) := by decide +kernel
theorem dX2_receiveLetters_38 : decode cX2_receiveLetters 38 = .ok (.if_icmp .ne 89, 3) := by decide +kernel
theorem dX2_receiveLetters_41 : decode cX2_receiveLetters 41 = .ok (.aload_n 0, 1) := by decide +kernel
theorem dX2_receiveLetters_42 : decode cX2_receiveLetters 42 = .ok (.dup, 1) := by decide +kernel
theorem dX2_receiveLetters_43 : decode cX2_receiveLetters 43 = .ok (.getfield 49, 3) := by decide +kernel
theorem dX2_receiveLetters_46 : decode cX2_receiveLetters 46 = .ok (.aload_n 0, 1) := by decide +kernel
theorem dX2_receiveLetters_47 : decode cX2_receiveLetters 47 = .ok (.getfield 14, 3) := by decide +kernel
theorem dX2_receiveLetters_50 : decode cX2_receiveLetters 50 = .ok (.iload 4, 2) := by decide +kernel
theorem dX2_receiveLetters_52 : decode cX2_receiveLetters 52 = .ok (.invokevirtual 86, 3) := by decide +kernel
theorem dX2_receiveLetters_55 : decode cX2_receiveLetters 55 = .ok (.iadd, 1) := by decide +kernel
theorem dX2_receiveLetters_56 : decode cX2_receiveLetters 56 = .ok (.putfield 49, 3) := by decide +kernel
theorem dX2_receiveLetters_59 : decode cX2_receiveLetters 59 = .ok (.aload_n 0, 1) := by decide +kernel
theorem dX2_receiveLetters_60 : decode cX2_receiveLetters 60 = .ok (.dup, 1) := by decide +kernel
theorem dX2_receiveLetters_61 : decode cX2_receiveLetters 61 = .ok (.getfield 52, 3) := by decide +kernel
theorem dX2_receiveLetters_64 : decode cX2_receiveLetters 64 = .ok (.iconst 1, 1) := by decide +kernel
theorem dX2_receiveLetters_65 : decode cX2_receiveLetters 65 = .ok (.iadd, 1) := by decide +kernel
theorem dX2_receiveLetters_66 : decode cX2_receiveLetters 66 = .ok (.putfield 52, 3) := by decide +kernel
theorem dX2_receiveLetters_69 : decode cX2_receiveLetters 69 = .ok (.aload_n 0, 1) := by decide +kernel
theorem dX2_receiveLetters_70 : decode cX2_receiveLetters 70 = .ok (.dup, 1) := by decide +kernel
theorem dX2_receiveLetters_71 : decode cX2_receiveLetters 71 = .ok (.getfield 55, 3) := by decide +kernel
theorem dX2_receiveLetters_74 : decode cX2_receiveLetters 74 = .ok (.iconst 1, 1) := by decide +kernel
theorem dX2_receiveLetters_75 : decode cX2_receiveLetters 75 = .ok (.iadd, 1) := by decide +kernel
theorem dX2_receiveLetters_76 : decode cX2_receiveLetters 76 = .ok (.putfield 55, 3) := by decide +kernel
theorem dX2_receiveLetters_79 : decode cX2_receiveLetters 79 = .ok (.aload_n 0, 1) := by decide +kernel
theorem dX2_receiveLetters_80 : decode cX2_receiveLetters 80 = .ok (.getfield 55, 3) := by decide +kernel
theorem dX2_receiveLetters_83 : decode cX2_receiveLetters 83 = .ok (.iconst 2, 1) := by decide +kernel
theorem dX2_receiveLetters_84 : decode cX2_receiveLetters 84 = .ok (.if_icmp .eq 9, 3) := by decide +kernel
theorem dX2_receiveLetters_87 : decode cX2_receiveLetters 87 = .ok (.aload_n 2, 1) := by decide +kernel
theorem dX2_receiveLetters_88 : decode cX2_receiveLetters 88 = .ok (.iconst 1, 1) := by decide +kernel
theorem dX2_receiveLetters_89 : decode cX2_receiveLetters 89 = .ok (.iaload, 1) := by decide +kernel
theorem dX2_receiveLetters_90 : decode cX2_receiveLetters 90 = .ok (.ifCond .ne 14, 3) := by decide +kernel
theorem dX2_receiveLetters_93 : decode cX2_receiveLetters 93 = .ok (.aload_n 0, 1) := by decide +kernel
theorem dX2_receiveLetters_94 : decode cX2_receiveLetters 94 = .ok (.iload_n 1, 1) := by decide +kernel
theorem dX2_receiveLetters_95 : decode cX2_receiveLetters 95 = .ok (.aload_n 2, 1) := by decide +kernel
theorem dX2_receiveLetters_96 : decode cX2_receiveLetters 96 = .ok (.iconst 0, 1) := by decide +kernel
theorem dX2_receiveLetters_97 : decode cX2_receiveLetters 97 = .ok (.iaload, 1) := by decide +kernel
theorem dX2_receiveLetters_98 : decode cX2_receiveLetters 98 = .ok (.invokevirtual 89, 3) := by decide +kernel
theorem dX2_receiveLetters_101 : decode cX2_receiveLetters 101 = .ok (.goto 20, 3) := by decide +kernel
theorem dX2_receiveLetters_104 : decode cX2_receiveLetters 104 = .ok (.aload_n 0, 1) := by decide +kernel
theorem dX2_receiveLetters_105 : decode cX2_receiveLetters 105 = .ok (.getfield 58, 3) := by decide +kernel
theorem dX2_receiveLetters_108 : decode cX2_receiveLetters 108 = .ok (.iconst (-1), 1) := by decide +kernel
theorem dX2_receiveLetters_109 : decode cX2_receiveLetters 109 = .ok (.if_icmp .ne 12, 3) := by decide +kernel
theorem dX2_receiveLetters_112 : decode cX2_receiveLetters 112 = .ok (.aload_n 0, 1) := by decide +kernel
theorem dX2_receiveLetters_113 : decode cX2_receiveLetters 113 = .ok (.iload_n 1, 1) := by decide +kernel
theorem dX2_receiveLetters_114 : decode cX2_receiveLetters 114 = .ok (.aload_n 2, 1) := by decide +kernel
theorem dX2_receiveLetters_115 : decode cX2_receiveLetters 115 = .ok (.iconst 1, 1) := by decide +kernel
theorem dX2_receiveLetters_116 : decode cX2_receiveLetters 116 = .ok (.iaload, 1) := by decide +kernel
theorem dX2_receiveLetters_117 : decode cX2_receiveLetters 117 = .ok (.iadd, 1) := by decide +kernel
theorem dX2_receiveLetters_118 : decode cX2_receiveLetters 118 = .ok (.putfield 58, 3) := by decide +kernel
theorem dX2_receiveLetters_121 : decode cX2_receiveLetters 121 = .ok (.iinc 4 1, 3) := by decide +kernel
theorem dX2_receiveLetters_124 : decode cX2_receiveLetters 124 = .ok (.goto (-108), 3) := by decide +kernel
theorem dX2_receiveLetters_127 : decode cX2_receiveLetters 127 = .ok (.aload_n 0, 1) := by decide +kernel
theorem dX2_receiveLetters_128 : decode cX2_receiveLetters 128 = .ok (.getfield 49, 3) := by decide +kernel
theorem dX2_receiveLetters_131 : decode cX2_receiveLetters 131 = .ok (.iload_n 3, 1) := by decide +kernel
theorem dX2_receiveLetters_132 : decode cX2_receiveLetters 132 = .ok (.isub, 1) := by decide +kernel
theorem dX2_receiveLetters_133 : decode cX2_receiveLetters 133 = .ok (.ireturn, 1) := by decide +kernel
theorem dX2_sendAnswer_0 : decode cX2_sendAnswer 0 = .ok (.aload_n 0, 1) := by decide +kernel
theorem dX2_sendAnswer_1 : decode cX2_sendAnswer 1 = .ok (.getfield 20, 3) := by decide +kernel
theorem dX2_sendAnswer_4 : decode cX2_sendAnswer 4 = .ok (.aload_n 0, 1) := by decide +kernel
theorem dX2_sendAnswer_5 : decode cX2_sendAnswer 5 = .ok (.getfield 20, 3) := by decide +kernel
theorem dX2_sendAnswer_8 : decode cX2_sendAnswer 8 = .ok (.getfield 27, 3) := by decide +kernel
theorem dX2_sendAnswer_11 : decode cX2_sendAnswer 11 = .ok (.iconst 1, 1) := by decide +kernel
theorem dX2_sendAnswer_12 : decode cX2_sendAnswer 12 = .ok (.isub, 1) := by decide +kernel
theorem dX2_sendAnswer_13 : decode cX2_sendAnswer 13 = .ok (.invokevirtual 72, 3) := by decide +kernel
theorem dX2_sendAnswer_16 : decode cX2_sendAnswer 16 = .ok (.istore_n 3, 1) := by decide +kernel
theorem dX2_sendAnswer_17 : decode cX2_sendAnswer 17 = .ok (.aload_n 0, 1) := by decide +kernel
theorem dX2_sendAnswer_18 : decode cX2_sendAnswer 18 = .ok (.getfield 20, 3) := by decide +kernel
theorem dX2_sendAnswer_21 : decode cX2_sendAnswer 21 = .ok (.iload_n 1, 1) := by decide +kernel
theorem dX2_sendAnswer_22 : decode cX2_sendAnswer 22 = .ok (.iload_n 2, 1) := by decide +kernel
theorem dX2_sendAnswer_23 : decode cX2_sendAnswer 23 = .ok (.iadd, 1) := by decide +kernel
theorem dX2_sendAnswer_24 : decode cX2_sendAnswer 24 = .ok (.iload_n 3, 1) := by decide +kernel
theorem dX2_sendAnswer_25 : decode cX2_sendAnswer 25 = .ok (.invokestatic 76, 3) := by decide +kernel
theorem dX2_sendAnswer_28 : decode cX2_sendAnswer 28 = .ok (.aload_n 0, 1) := by decide +kernel
theorem dX2_sendAnswer_29 : decode cX2_sendAnswer 29 = .ok (.getfield 23, 3) := by decide +kernel
theorem dX2_sendAnswer_32 : decode cX2_sendAnswer 32 = .ok (.aload_n 0, 1) := by decide +kernel
theorem dX2_sendAnswer_33 : decode cX2_sendAnswer 33 = .ok (.getfield 52, 3) := by decide +kernel
theorem dX2_sendAnswer_36 : decode cX2_sendAnswer 36 = .ok (.invokevirtual 82, 3) := by decide +kernel
theorem dX2_sendAnswer_39 : decode cX2_sendAnswer 39 = .ok (.aload_n 0, 1) := by decide +kernel
theorem dX2_sendAnswer_40 : decode cX2_sendAnswer 40 = .ok (.dup, 1) := by decide +kernel
theorem dX2_sendAnswer_41 : decode cX2_sendAnswer 41 = .ok (.getfield 61, 3) := by decide +kernel
theorem dX2_sendAnswer_44 : decode cX2_sendAnswer 44 = .ok (.iconst 1, 1) := by decide +kernel
theorem dX2_sendAnswer_45 : decode cX2_sendAnswer 45 = .ok (.iadd, 1) := by decide +kernel
theorem dX2_sendAnswer_46 : decode cX2_sendAnswer 46 = .ok (.putfield 61, 3) := by decide +kernel
theorem dX2_sendAnswer_49 : decode cX2_sendAnswer 49 = .ok (.aload_n 0, 1) := by decide +kernel
theorem dX2_sendAnswer_50 : decode cX2_sendAnswer 50 = .ok (.iconst 0, 1) := by decide +kernel
theorem dX2_sendAnswer_51 : decode cX2_sendAnswer 51 = .ok (.putfield 55, 3) := by decide +kernel
theorem dX2_sendAnswer_54 : decode cX2_sendAnswer 54 = .ok (.aload_n 0, 1) := by decide +kernel
theorem dX2_sendAnswer_55 : decode cX2_sendAnswer 55 = .ok (.iconst (-1), 1) := by decide +kernel
theorem dX2_sendAnswer_56 : decode cX2_sendAnswer 56 = .ok (.putfield 58, 3) := by decide +kernel
theorem dX2_sendAnswer_59 : decode cX2_sendAnswer 59 = .ok (.return_, 1) := by decide +kernel
theorem dX2_receiveAnswers_0 : decode cX2_receiveAnswers 0 = .ok (.iconst 0, 1) := by decide +kernel
theorem dX2_receiveAnswers_1 : decode cX2_receiveAnswers 1 = .ok (.istore_n 2, 1) := by decide +kernel
theorem dX2_receiveAnswers_2 : decode cX2_receiveAnswers 2 = .ok (.aload_n 0, 1) := by decide +kernel
theorem dX2_receiveAnswers_3 : decode cX2_receiveAnswers 3 = .ok (.getfield 20, 3) := by decide +kernel
theorem dX2_receiveAnswers_6 : decode cX2_receiveAnswers 6 = .ok (.getfield 27, 3) := by decide +kernel
theorem dX2_receiveAnswers_9 : decode cX2_receiveAnswers 9 = .ok (.istore_n 3, 1) := by decide +kernel
theorem dX2_receiveAnswers_10 : decode cX2_receiveAnswers 10 = .ok (.iload_n 3, 1) := by decide +kernel
theorem dX2_receiveAnswers_11 : decode cX2_receiveAnswers 11 = .ok (.ifCond .le 71, 3) := by decide +kernel
theorem dX2_receiveAnswers_14 : decode cX2_receiveAnswers 14 = .ok (.aload_n 0, 1) := by decide +kernel
theorem dX2_receiveAnswers_15 : decode cX2_receiveAnswers 15 = .ok (.getfield 20, 3) := by decide +kernel
theorem dX2_receiveAnswers_18 : decode cX2_receiveAnswers 18 = .ok (.iconst 0, 1) := by decide +kernel
theorem dX2_receiveAnswers_19 : decode cX2_receiveAnswers 19 = .ok (.invokevirtual 72, 3) := by decide +kernel
theorem dX2_receiveAnswers_22 : decode cX2_receiveAnswers 22 = .ok (.iload_n 1, 1) := by decide +kernel
theorem dX2_receiveAnswers_23 : decode cX2_receiveAnswers 23 = .ok (.if_icmp .ne 59, 3) := by decide +kernel
theorem dX2_receiveAnswers_26 : decode cX2_receiveAnswers 26 = .ok (.aload_n 0, 1) := by decide +kernel
theorem dX2_receiveAnswers_27 : decode cX2_receiveAnswers 27 = .ok (.getfield 20, 3) := by decide +kernel
theorem dX2_receiveAnswers_30 : decode cX2_receiveAnswers 30 = .ok (.iconst 0, 1) := by decide +kernel
theorem dX2_receiveAnswers_31 : decode cX2_receiveAnswers 31 = .ok (.invokevirtual 86, 3) := by decide +kernel
theorem dX2_receiveAnswers_34 : decode cX2_receiveAnswers 34 = .ok (.istore 4, 2) := by decide +kernel
theorem dX2_receiveAnswers_36 : decode cX2_receiveAnswers 36 = .ok (.aload_n 0, 1) := by decide +kernel
theorem dX2_receiveAnswers_37 : decode cX2_receiveAnswers 37 = .ok (.getfield 43, 3) := by decide +kernel
theorem dX2_receiveAnswers_40 : decode cX2_receiveAnswers 40 = .ok (.iload 4, 2) := by decide +kernel
theorem dX2_receiveAnswers_42 : decode cX2_receiveAnswers 42 = .ok (.if_icmp .ge 24, 3) := by decide +kernel
theorem dX2_receiveAnswers_45 : decode cX2_receiveAnswers 45 = .ok (.aload_n 0, 1) := by decide +kernel
theorem dX2_receiveAnswers_46 : decode cX2_receiveAnswers 46 = .ok (.getfield 14, 3) := by decide +kernel
theorem dX2_receiveAnswers_49 : decode cX2_receiveAnswers 49 = .ok (.iconst 0, 1) := by decide +kernel
theorem dX2_receiveAnswers_50 : decode cX2_receiveAnswers 50 = .ok (.invokevirtual 93, 3) := by decide +kernel
theorem dX2_receiveAnswers_53 : decode cX2_receiveAnswers 53 = .ok (.aload_n 0, 1) := by decide +kernel
theorem dX2_receiveAnswers_54 : decode cX2_receiveAnswers 54 = .ok (.dup, 1) := by decide +kernel
theorem dX2_receiveAnswers_55 : decode cX2_receiveAnswers 55 = .ok (.getfield 43, 3) := by decide +kernel
theorem dX2_receiveAnswers_58 : decode cX2_receiveAnswers 58 = .ok (.iconst 1, 1) := by decide +kernel
theorem dX2_receiveAnswers_59 : decode cX2_receiveAnswers 59 = .ok (.iadd, 1) := by decide +kernel
theorem dX2_receiveAnswers_60 : decode cX2_receiveAnswers 60 = .ok (.putfield 43, 3) := by decide +kernel
theorem dX2_receiveAnswers_63 : decode cX2_receiveAnswers 63 = .ok (.goto (-27), 3) := by decide +kernel
theorem dX2_receiveAnswers_66 : decode cX2_receiveAnswers 66 = .ok (.aload_n 0, 1) := by decide +kernel
theorem dX2_receiveAnswers_67 : decode cX2_receiveAnswers 67 = .ok (.getfield 20, 3) := by decide +kernel
theorem dX2_receiveAnswers_70 : decode cX2_receiveAnswers 70 = .ok (.iconst 0, 1) := by decide +kernel
theorem dX2_receiveAnswers_71 : decode cX2_receiveAnswers 71 = .ok (.invokevirtual 93, 3) := by decide +kernel
theorem dX2_receiveAnswers_74 : decode cX2_receiveAnswers 74 = .ok (.iconst 1, 1) := by decide +kernel
theorem dX2_receiveAnswers_75 : decode cX2_receiveAnswers 75 = .ok (.istore_n 2, 1) := by decide +kernel
theorem dX2_receiveAnswers_76 : decode cX2_receiveAnswers 76 = .ok (.iinc 3 (-1), 3) := by decide +kernel
theorem dX2_receiveAnswers_79 : decode cX2_receiveAnswers 79 = .ok (.goto (-69), 3) := by decide +kernel
theorem dX2_receiveAnswers_82 : decode cX2_receiveAnswers 82 = .ok (.iload_n 2, 1) := by decide +kernel
theorem dX2_receiveAnswers_83 : decode cX2_receiveAnswers 83 = .ok (.ireturn, 1) := by decide +kernel
theorem dX3_init_0 : decode cX3_init 0 = .ok (.aload_n 0, 1) := by decide +kernel
theorem dX3_init_1 : decode cX3_init 1 = .ok (.invokespecial 3, 3) := by decide +kernel
theorem dX3_init_4 : decode cX3_init 4 = .ok (.aload_n 0, 1) := by decide +kernel
theorem dX3_init_5 : decode cX3_init 5 = .ok (.iconst 4, 1) := by decide +kernel
theorem dX3_init_6 : decode cX3_init 6 = .ok (.newarray .int, 2) := by decide +kernel
theorem dX3_init_8 : decode cX3_init 8 = .ok (.putfield 9, 3) := by decide +kernel
theorem dX3_init_11 : decode cX3_init 11 = .ok (.aload_n 0, 1) := by decide +kernel
theorem dX3_init_12 : decode cX3_init 12 = .ok (.new 15, 3) := by decide +kernel
theorem dX3_init_15 : decode cX3_init 15 = .ok (.dup, 1) := by decide +kernel
theorem dX3_init_16 : decode cX3_init 16 = .ok (.bipush 8, 2) := by decide +kernel
theorem dX3_init_18 : decode cX3_init 18 = .ok (.invokespecial 17, 3) := by decide +kernel
theorem dX3_init_21 : decode cX3_init 21 = .ok (.putfield 20, 3) := by decide +kernel
theorem dX3_init_24 : decode cX3_init 24 = .ok (.aload_n 0, 1) := by decide +kernel
theorem dX3_init_25 : decode cX3_init 25 = .ok (.iconst 4, 1) := by decide +kernel
theorem dX3_init_26 : decode cX3_init 26 = .ok (.anewarray 24, 3) := by decide +kernel
theorem dX3_init_29 : decode cX3_init 29 = .ok (.putfield 26, 3) := by decide +kernel
theorem dX3_init_32 : decode cX3_init 32 = .ok (.iconst 0, 1) := by decide +kernel
theorem dX3_init_33 : decode cX3_init 33 = .ok (.istore_n 1, 1) := by decide +kernel
theorem dX3_init_34 : decode cX3_init 34 = .ok (.iload_n 1, 1) := by decide +kernel
theorem dX3_init_35 : decode cX3_init 35 = .ok (.iconst 4, 1) := by decide +kernel
theorem dX3_init_36 : decode cX3_init 36 = .ok (.if_icmp .ge 23, 3) := by decide +kernel
theorem dX3_init_39 : decode cX3_init 39 = .ok (.aload_n 0, 1) := by decide +kernel
theorem dX3_init_40 : decode cX3_init 40 = .ok (.getfield 26, 3) := by decide +kernel
theorem dX3_init_43 : decode cX3_init 43 = .ok (.iload_n 1, 1) := by decide +kernel
theorem dX3_init_44 : decode cX3_init 44 = .ok (.new 24, 3) := by decide +kernel
theorem dX3_init_47 : decode cX3_init 47 = .ok (.dup, 1) := by decide +kernel
theorem dX3_init_48 : decode cX3_init 48 = .ok (.iload_n 1, 1) := by decide +kernel
theorem dX3_init_49 : decode cX3_init 49 = .ok (.invokespecial 30, 3) := by decide +kernel
theorem dX3_init_52 : decode cX3_init 52 = .ok (.aastore, 1) := by decide +kernel
theorem dX3_init_53 : decode cX3_init 53 = .ok (.iinc 1 1, 3) := by decide +kernel
theorem dX3_init_56 : decode cX3_init 56 = .ok (.goto (-22), 3) := by decide +kernel
theorem dX3_init_59 : decode cX3_init 59 = .ok (.aload_n 0, 1) := by decide +kernel
theorem dX3_init_60 : decode cX3_init 60 = .ok (.invokevirtual 31, 3) := by decide +kernel
theorem dX3_init_63 : decode cX3_init 63 = .ok (.aload_n 0, 1) := by decide +kernel
theorem dX3_init_64 : decode cX3_init 64 = .ok (.iconst 1, 1) := by decide +kernel
theorem dX3_init_65 : decode cX3_init 65 = .ok (.invokevirtual 34, 3) := by decide +kernel
theorem dX3_init_68 : decode cX3_init 68 = .ok (.return_, 1) := by decide +kernel
theorem dX3_takeFirstSettings_0 : decode cX3_takeFirstSettings 0 = .ok (.iconst 0, 1) := by decide +kernel
theorem dX3_takeFirstSettings_1 : decode cX3_takeFirstSettings 1 = .ok (.istore_n 1, 1) := by decide +kernel
theorem dX3_takeFirstSettings_2 : decode cX3_takeFirstSettings 2 = .ok (.iload_n 1, 1) := by decide +kernel
theorem dX3_takeFirstSettings_3 : decode cX3_takeFirstSettings 3 = .ok (.iconst 4, 1) := by decide +kernel
theorem dX3_takeFirstSettings_4 : decode cX3_takeFirstSettings 4 = .ok (.if_icmp .ge 20, 3) := by decide +kernel
theorem dX3_takeFirstSettings_7 : decode cX3_takeFirstSettings 7 = .ok (.aload_n 0, 1) := by decide +kernel
theorem dX3_takeFirstSettings_8 : decode cX3_takeFirstSettings 8 = .ok (.getfield 9, 3) := by decide +kernel
theorem dX3_takeFirstSettings_11 : decode cX3_takeFirstSettings 11 = .ok (.iload_n 1, 1) := by decide +kernel
theorem dX3_takeFirstSettings_12 : decode cX3_takeFirstSettings 12 = .ok (.getstatic 37, 3) := by decide +kernel
theorem dX3_takeFirstSettings_15 : decode cX3_takeFirstSettings 15 = .ok (.iload_n 1, 1) := by decide +kernel
theorem dX3_takeFirstSettings_16 : decode cX3_takeFirstSettings 16 = .ok (.iaload, 1) := by decide +kernel
theorem dX3_takeFirstSettings_17 : decode cX3_takeFirstSettings 17 = .ok (.iastore, 1) := by decide +kernel
theorem dX3_takeFirstSettings_18 : decode cX3_takeFirstSettings 18 = .ok (.iinc 1 1, 3) := by decide +kernel
theorem dX3_takeFirstSettings_21 : decode cX3_takeFirstSettings 21 = .ok (.goto (-19), 3) := by decide +kernel
theorem dX3_takeFirstSettings_24 : decode cX3_takeFirstSettings 24 = .ok (.return_, 1) := by decide +kernel
theorem dX3_begin_0 : decode cX3_begin 0 = .ok (.aload_n 0, 1) := by decide +kernel
theorem dX3_begin_1 : decode cX3_begin 1 = .ok (.iload_n 1, 1) := by decide +kernel
theorem dX3_begin_2 : decode cX3_begin 2 = .ok (.putfield 40, 3) := by decide +kernel
theorem dX3_begin_5 : decode cX3_begin 5 = .ok (.aload_n 0, 1) := by decide +kernel
theorem dX3_begin_6 : decode cX3_begin 6 = .ok (.iconst 0, 1) := by decide +kernel
theorem dX3_begin_7 : decode cX3_begin 7 = .ok (.putfield 44, 3) := by decide +kernel
theorem dX3_begin_10 : decode cX3_begin 10 = .ok (.aload_n 0, 1) := by decide +kernel
theorem dX3_begin_11 : decode cX3_begin 11 = .ok (.getfield 20, 3) := by decide +kernel
theorem dX3_begin_14 : decode cX3_begin 14 = .ok (.iconst 0, 1) := by decide +kernel
theorem dX3_begin_15 : decode cX3_begin 15 = .ok (.putfield 47, 3) := by decide +kernel
theorem dX3_begin_18 : decode cX3_begin 18 = .ok (.iconst 0, 1) := by decide +kernel
theorem dX3_begin_19 : decode cX3_begin 19 = .ok (.istore_n 2, 1) := by decide +kernel
theorem dX3_begin_20 : decode cX3_begin 20 = .ok (.iload_n 2, 1) := by decide +kernel
theorem dX3_begin_21 : decode cX3_begin 21 = .ok (.iconst 4, 1) := by decide +kernel
theorem dX3_begin_22 : decode cX3_begin 22 = .ok (.if_icmp .ge 18, 3) := by decide +kernel
theorem dX3_begin_25 : decode cX3_begin 25 = .ok (.aload_n 0, 1) := by decide +kernel
theorem dX3_begin_26 : decode cX3_begin 26 = .ok (.getfield 26, 3) := by decide +kernel
theorem dX3_begin_29 : decode cX3_begin 29 = .ok (.iload_n 2, 1) := by decide +kernel
theorem dX3_begin_30 : decode cX3_begin 30 = .ok (.aaload, 1) := by decide +kernel
theorem dX3_begin_31 : decode cX3_begin 31 = .ok (.invokevirtual 50, 3) := by decide +kernel
theorem dX3_begin_34 : decode cX3_begin 34 = .ok (.iinc 2 1, 3) := by decide +kernel
theorem dX3_begin_37 : decode cX3_begin 37 = .ok (.goto (-17), 3) := by decide +kernel
theorem dX3_begin_40 : decode cX3_begin 40 = .ok (.return_, 1) := by decide +kernel
theorem dX3_copyFrom_0 : decode cX3_copyFrom 0 = .ok (.aload_n 0, 1) := by decide +kernel
theorem dX3_copyFrom_1 : decode cX3_copyFrom 1 = .ok (.aload_n 1, 1) := by decide +kernel
theorem dX3_copyFrom_2 : decode cX3_copyFrom 2 = .ok (.getfield 40, 3) := by decide +kernel
theorem dX3_copyFrom_5 : decode cX3_copyFrom 5 = .ok (.putfield 40, 3) := by decide +kernel
theorem dX3_copyFrom_8 : decode cX3_copyFrom 8 = .ok (.aload_n 0, 1) := by decide +kernel
theorem dX3_copyFrom_9 : decode cX3_copyFrom 9 = .ok (.aload_n 1, 1) := by decide +kernel
theorem dX3_copyFrom_10 : decode cX3_copyFrom 10 = .ok (.getfield 44, 3) := by decide +kernel
theorem dX3_copyFrom_13 : decode cX3_copyFrom 13 = .ok (.putfield 44, 3) := by decide +kernel
theorem dX3_copyFrom_16 : decode cX3_copyFrom 16 = .ok (.iconst 0, 1) := by decide +kernel
theorem dX3_copyFrom_17 : decode cX3_copyFrom 17 = .ok (.istore_n 2, 1) := by decide +kernel
theorem dX3_copyFrom_18 : decode cX3_copyFrom 18 = .ok (.iload_n 2, 1) := by decide +kernel
theorem dX3_copyFrom_19 : decode cX3_copyFrom 19 = .ok (.iconst 4, 1) := by decide +kernel
theorem dX3_copyFrom_20 : decode cX3_copyFrom 20 = .ok (.if_icmp .ge 21, 3) := by decide +kernel
theorem dX3_copyFrom_23 : decode cX3_copyFrom 23 = .ok (.aload_n 0, 1) := by decide +kernel
theorem dX3_copyFrom_24 : decode cX3_copyFrom 24 = .ok (.getfield 9, 3) := by decide +kernel
theorem dX3_copyFrom_27 : decode cX3_copyFrom 27 = .ok (.iload_n 2, 1) := by decide +kernel
theorem dX3_copyFrom_28 : decode cX3_copyFrom 28 = .ok (.aload_n 1, 1) := by decide +kernel
theorem dX3_copyFrom_29 : decode cX3_copyFrom 29 = .ok (.getfield 9, 3) := by decide +kernel
theorem dX3_copyFrom_32 : decode cX3_copyFrom 32 = .ok (.iload_n 2, 1) := by decide +kernel
theorem dX3_copyFrom_33 : decode cX3_copyFrom 33 = .ok (.iaload, 1) := by decide +kernel
theorem dX3_copyFrom_34 : decode cX3_copyFrom 34 = .ok (.iastore, 1) := by decide +kernel
theorem dX3_copyFrom_35 : decode cX3_copyFrom 35 = .ok (.iinc 2 1, 3) := by decide +kernel
theorem dX3_copyFrom_38 : decode cX3_copyFrom 38 = .ok (.goto (-20), 3) := by decide +kernel
theorem dX3_copyFrom_41 : decode cX3_copyFrom 41 = .ok (.aload_n 0, 1) := by decide +kernel
theorem dX3_copyFrom_42 : decode cX3_copyFrom 42 = .ok (.getfield 20, 3) := by decide +kernel
theorem dX3_copyFrom_45 : decode cX3_copyFrom 45 = .ok (.aload_n 1, 1) := by decide +kernel
theorem dX3_copyFrom_46 : decode cX3_copyFrom 46 = .ok (.getfield 20, 3) := by decide +kernel
theorem dX3_copyFrom_49 : decode cX3_copyFrom 49 = .ok (.invokevirtual 52, 3) := by decide +kernel
theorem dX3_copyFrom_52 : decode cX3_copyFrom 52 = .ok (.iconst 0, 1) := by decide +kernel
theorem dX3_copyFrom_53 : decode cX3_copyFrom 53 = .ok (.istore_n 2, 1) := by decide +kernel
theorem dX3_copyFrom_54 : decode cX3_copyFrom 54 = .ok (.iload_n 2, 1) := by decide +kernel
theorem dX3_copyFrom_55 : decode cX3_copyFrom 55 = .ok (.iconst 4, 1) := by decide +kernel
theorem dX3_copyFrom_56 : decode cX3_copyFrom 56 = .ok (.if_icmp .ge 24, 3) := by decide +kernel
theorem dX3_copyFrom_59 : decode cX3_copyFrom 59 = .ok (.aload_n 0, 1) := by decide +kernel
theorem dX3_copyFrom_60 : decode cX3_copyFrom 60 = .ok (.getfield 26, 3) := by decide +kernel
theorem dX3_copyFrom_63 : decode cX3_copyFrom 63 = .ok (.iload_n 2, 1) := by decide +kernel
theorem dX3_copyFrom_64 : decode cX3_copyFrom 64 = .ok (.aaload, 1) := by decide +kernel
theorem dX3_copyFrom_65 : decode cX3_copyFrom 65 = .ok (.aload_n 1, 1) := by decide +kernel
theorem dX3_copyFrom_66 : decode cX3_copyFrom 66 = .ok (.getfield 26, 3) := by decide +kernel
theorem dX3_copyFrom_69 : decode cX3_copyFrom 69 = .ok (.iload_n 2, 1) := by decide +kernel
theorem dX3_copyFrom_70 : decode cX3_copyFrom 70 = .ok (.aaload, 1) := by decide +kernel
theorem dX3_copyFrom_71 : decode cX3_copyFrom 71 = .ok (.invokevirtual 56, 3) := by decide +kernel
theorem dX3_copyFrom_74 : decode cX3_copyFrom 74 = .ok (.iinc 2 1, 3) := by decide +kernel
theorem dX3_copyFrom_77 : decode cX3_copyFrom 77 = .ok (.goto (-23), 3) := by decide +kernel
theorem dX3_copyFrom_80 : decode cX3_copyFrom 80 = .ok (.return_, 1) := by decide +kernel
theorem dX3_sumOfWriters_0 : decode cX3_sumOfWriters 0 = .ok (.iconst 0, 1) := by decide +kernel
theorem dX3_sumOfWriters_1 : decode cX3_sumOfWriters 1 = .ok (.istore_n 2, 1) := by decide +kernel
theorem dX3_sumOfWriters_2 : decode cX3_sumOfWriters 2 = .ok (.iconst 0, 1) := by decide +kernel
theorem dX3_sumOfWriters_3 : decode cX3_sumOfWriters 3 = .ok (.istore_n 3, 1) := by decide +kernel
theorem dX3_sumOfWriters_4 : decode cX3_sumOfWriters 4 = .ok (.iload_n 3, 1) := by decide +kernel
theorem dX3_sumOfWriters_5 : decode cX3_sumOfWriters 5 = .ok (.iconst 4, 1) := by decide +kernel
theorem dX3_sumOfWriters_6 : decode cX3_sumOfWriters 6 = .ok (.if_icmp .ge 22, 3) := by decide +kernel
theorem dX3_sumOfWriters_9 : decode cX3_sumOfWriters 9 = .ok (.iload_n 2, 1) := by decide +kernel
theorem dX3_sumOfWriters_10 : decode cX3_sumOfWriters 10 = .ok (.aload_n 0, 1) := by decide +kernel
theorem dX3_sumOfWriters_11 : decode cX3_sumOfWriters 11 = .ok (.getfield 26, 3) := by decide +kernel
theorem dX3_sumOfWriters_14 : decode cX3_sumOfWriters 14 = .ok (.iload_n 3, 1) := by decide +kernel
theorem dX3_sumOfWriters_15 : decode cX3_sumOfWriters 15 = .ok (.aaload, 1) := by decide +kernel
theorem dX3_sumOfWriters_16 : decode cX3_sumOfWriters 16 = .ok (.iload_n 1, 1) := by decide +kernel
theorem dX3_sumOfWriters_17 : decode cX3_sumOfWriters 17 = .ok (.invokevirtual 59, 3) := by decide +kernel
theorem dX3_sumOfWriters_20 : decode cX3_sumOfWriters 20 = .ok (.iadd, 1) := by decide +kernel
theorem dX3_sumOfWriters_21 : decode cX3_sumOfWriters 21 = .ok (.istore_n 2, 1) := by decide +kernel
theorem dX3_sumOfWriters_22 : decode cX3_sumOfWriters 22 = .ok (.iinc 3 1, 3) := by decide +kernel
theorem dX3_sumOfWriters_25 : decode cX3_sumOfWriters 25 = .ok (.goto (-21), 3) := by decide +kernel
theorem dX3_sumOfWriters_28 : decode cX3_sumOfWriters 28 = .ok (.iload_n 2, 1) := by decide +kernel
theorem dX3_sumOfWriters_29 : decode cX3_sumOfWriters 29 = .ok (.ireturn, 1) := by decide +kernel
theorem dX3_sumOfDesks_0 : decode cX3_sumOfDesks 0 = .ok (.iconst 0, 1) := by decide +kernel
theorem dX3_sumOfDesks_1 : decode cX3_sumOfDesks 1 = .ok (.istore_n 2, 1) := by decide +kernel
theorem dX3_sumOfDesks_2 : decode cX3_sumOfDesks 2 = .ok (.iconst 0, 1) := by decide +kernel
theorem dX3_sumOfDesks_3 : decode cX3_sumOfDesks 3 = .ok (.istore_n 3, 1) := by decide +kernel
theorem dX3_sumOfDesks_4 : decode cX3_sumOfDesks 4 = .ok (.iload_n 3, 1) := by decide +kernel
theorem dX3_sumOfDesks_5 : decode cX3_sumOfDesks 5 = .ok (.iconst 4, 1) := by decide +kernel
theorem dX3_sumOfDesks_6 : decode cX3_sumOfDesks 6 = .ok (.if_icmp .ge 22, 3) := by decide +kernel
theorem dX3_sumOfDesks_9 : decode cX3_sumOfDesks 9 = .ok (.iload_n 2, 1) := by decide +kernel
theorem dX3_sumOfDesks_10 : decode cX3_sumOfDesks 10 = .ok (.aload_n 0, 1) := by decide +kernel
theorem dX3_sumOfDesks_11 : decode cX3_sumOfDesks 11 = .ok (.getfield 26, 3) := by decide +kernel
theorem dX3_sumOfDesks_14 : decode cX3_sumOfDesks 14 = .ok (.iload_n 3, 1) := by decide +kernel
theorem dX3_sumOfDesks_15 : decode cX3_sumOfDesks 15 = .ok (.aaload, 1) := by decide +kernel
theorem dX3_sumOfDesks_16 : decode cX3_sumOfDesks 16 = .ok (.iload_n 1, 1) := by decide +kernel
theorem dX3_sumOfDesks_17 : decode cX3_sumOfDesks 17 = .ok (.invokevirtual 63, 3) := by decide +kernel
theorem dX3_sumOfDesks_20 : decode cX3_sumOfDesks 20 = .ok (.iadd, 1) := by decide +kernel
theorem dX3_sumOfDesks_21 : decode cX3_sumOfDesks 21 = .ok (.istore_n 2, 1) := by decide +kernel
theorem dX3_sumOfDesks_22 : decode cX3_sumOfDesks 22 = .ok (.iinc 3 1, 3) := by decide +kernel
theorem dX3_sumOfDesks_25 : decode cX3_sumOfDesks 25 = .ok (.goto (-21), 3) := by decide +kernel
theorem dX3_sumOfDesks_28 : decode cX3_sumOfDesks 28 = .ok (.iload_n 2, 1) := by decide +kernel
theorem dX3_sumOfDesks_29 : decode cX3_sumOfDesks 29 = .ok (.ireturn, 1) := by decide +kernel
theorem dX3_faultOfWriter_0 : decode cX3_faultOfWriter 0 = .ok (.iload_n 1, 1) := by decide +kernel
theorem dX3_faultOfWriter_1 : decode cX3_faultOfWriter 1 = .ok (.ifCond .lt 20, 3) := by decide +kernel
theorem dX3_faultOfWriter_4 : decode cX3_faultOfWriter 4 = .ok (.iload_n 1, 1) := by decide +kernel
theorem dX3_faultOfWriter_5 : decode cX3_faultOfWriter 5 = .ok (.aload_n 0, 1) := by decide +kernel
theorem dX3_faultOfWriter_6 : decode cX3_faultOfWriter 6 = .ok (.getfield 40, 3) := by decide +kernel
theorem dX3_faultOfWriter_9 : decode cX3_faultOfWriter 9 = .ok (.if_icmp .ge 12, 3) := by decide +kernel
theorem dX3_faultOfWriter_12 : decode cX3_faultOfWriter 12 = .ok (.iload_n 1, 1) := by decide +kernel
theorem dX3_faultOfWriter_13 : decode cX3_faultOfWriter 13 = .ok (.iconst 4, 1) := by decide +kernel
theorem dX3_faultOfWriter_14 : decode cX3_faultOfWriter 14 = .ok (.if_icmp .ge 7, 3) := by decide +kernel
theorem dX3_faultOfWriter_17 : decode cX3_faultOfWriter 17 = .ok (.iconst 0, 1) := by decide +kernel
theorem dX3_faultOfWriter_18 : decode cX3_faultOfWriter 18 = .ok (.goto 4, 3) := by decide +kernel
theorem dX3_faultOfWriter_21 : decode cX3_faultOfWriter 21 = .ok (.iconst 1, 1) := by decide +kernel
theorem dX3_faultOfWriter_22 : decode cX3_faultOfWriter 22 = .ok (.ireturn, 1) := by decide +kernel
theorem dX3_faultOf_0 : decode cX3_faultOf 0 = .ok (.iload_n 1, 1) := by decide +kernel
theorem dX3_faultOf_1 : decode cX3_faultOf 1 = .ok (.tableswitch 92 0 5 #[39, 54, 61, 70, 70, 76], 39) := by decide +kernel
theorem dX3_faultOf_40 : decode cX3_faultOf 40 = .ok (.iload_n 2, 1) := by decide +kernel
theorem dX3_faultOf_41 : decode cX3_faultOf 41 = .ok (.iconst 1, 1) := by decide +kernel
theorem dX3_faultOf_42 : decode cX3_faultOf 42 = .ok (.iconst 4, 1) := by decide +kernel
theorem dX3_faultOf_43 : decode cX3_faultOf 43 = .ok (.invokestatic 66, 3) := by decide +kernel
theorem dX3_faultOf_46 : decode cX3_faultOf 46 = .ok (.ifCond .eq 7, 3) := by decide +kernel
theorem dX3_faultOf_49 : decode cX3_faultOf 49 = .ok (.iconst 0, 1) := by decide +kernel
theorem dX3_faultOf_50 : decode cX3_faultOf 50 = .ok (.goto 4, 3) := by decide +kernel
theorem dX3_faultOf_53 : decode cX3_faultOf 53 = .ok (.iconst 2, 1) := by decide +kernel
theorem dX3_faultOf_54 : decode cX3_faultOf 54 = .ok (.ireturn, 1) := by decide +kernel
theorem dX3_faultOf_55 : decode cX3_faultOf 55 = .ok (.aload_n 0, 1) := by decide +kernel
theorem dX3_faultOf_56 : decode cX3_faultOf 56 = .ok (.iload_n 2, 1) := by decide +kernel
theorem dX3_faultOf_57 : decode cX3_faultOf 57 = .ok (.iload_n 3, 1) := by decide +kernel
theorem dX3_faultOf_58 : decode cX3_faultOf 58 = .ok (.invokevirtual 70, 3) := by decide +kernel
theorem dX3_faultOf_61 : decode cX3_faultOf 61 = .ok (.ireturn, 1) := by decide +kernel
theorem dX3_faultOf_62 : decode cX3_faultOf 62 = .ok (.aload_n 0, 1) := by decide +kernel
theorem dX3_faultOf_63 : decode cX3_faultOf 63 = .ok (.iload_n 2, 1) := by decide +kernel
theorem dX3_faultOf_64 : decode cX3_faultOf 64 = .ok (.iload_n 3, 1) := by decide +kernel
theorem dX3_faultOf_65 : decode cX3_faultOf 65 = .ok (.iload 4, 2) := by decide +kernel
theorem dX3_faultOf_67 : decode cX3_faultOf 67 = .ok (.invokevirtual 74, 3) := by decide +kernel
theorem dX3_faultOf_70 : decode cX3_faultOf 70 = .ok (.ireturn, 1) := by decide +kernel
theorem dX3_faultOf_71 : decode cX3_faultOf 71 = .ok (.aload_n 0, 1) := by decide +kernel
theorem dX3_faultOf_72 : decode cX3_faultOf 72 = .ok (.iload_n 2, 1) := by decide +kernel
theorem dX3_faultOf_73 : decode cX3_faultOf 73 = .ok (.invokevirtual 78, 3) := by decide +kernel
theorem dX3_faultOf_76 : decode cX3_faultOf 76 = .ok (.ireturn, 1) := by decide +kernel
theorem dX3_faultOf_77 : decode cX3_faultOf 77 = .ok (.iload_n 2, 1) := by decide +kernel
theorem dX3_faultOf_78 : decode cX3_faultOf 78 = .ok (.iconst 1, 1) := by decide +kernel
theorem dX3_faultOf_79 : decode cX3_faultOf 79 = .ok (.bipush 99, 2) := by decide +kernel
theorem dX3_faultOf_81 : decode cX3_faultOf 81 = .ok (.invokestatic 66, 3) := by decide +kernel
theorem dX3_faultOf_84 : decode cX3_faultOf 84 = .ok (.ifCond .eq 7, 3) := by decide +kernel
theorem dX3_faultOf_87 : decode cX3_faultOf 87 = .ok (.iconst 0, 1) := by decide +kernel
theorem dX3_faultOf_88 : decode cX3_faultOf 88 = .ok (.goto 4, 3) := by decide +kernel
theorem dX3_faultOf_91 : decode cX3_faultOf 91 = .ok (.iconst 2, 1) := by decide +kernel
theorem dX3_faultOf_92 : decode cX3_faultOf 92 = .ok (.ireturn, 1) := by decide +kernel
theorem dX3_faultOf_93 : decode cX3_faultOf 93 = .ok (.aload_n 0, 1) := by decide +kernel
theorem dX3_faultOf_94 : decode cX3_faultOf 94 = .ok (.iload_n 2, 1) := by decide +kernel
theorem dX3_faultOf_95 : decode cX3_faultOf 95 = .ok (.iload_n 3, 1) := by decide +kernel
theorem dX3_faultOf_96 : decode cX3_faultOf 96 = .ok (.invokevirtual 81, 3) := by decide +kernel
theorem dX3_faultOf_99 : decode cX3_faultOf 99 = .ok (.ifCond .eq 7, 3) := by decide +kernel
theorem dX3_faultOf_102 : decode cX3_faultOf 102 = .ok (.iconst 0, 1) := by decide +kernel
theorem dX3_faultOf_103 : decode cX3_faultOf 103 = .ok (.goto 4, 3) := by decide +kernel
theorem dX3_faultOf_106 : decode cX3_faultOf 106 = .ok (.iconst 2, 1) := by decide +kernel
theorem dX3_faultOf_107 : decode cX3_faultOf 107 = .ok (.ireturn, 1) := by decide +kernel
theorem dX3_faultOfNote_0 : decode cX3_faultOfNote 0 = .ok (.aload_n 0, 1) := by decide +kernel
theorem dX3_faultOfNote_1 : decode cX3_faultOfNote 1 = .ok (.iload_n 1, 1) := by decide +kernel
theorem dX3_faultOfNote_2 : decode cX3_faultOfNote 2 = .ok (.invokevirtual 78, 3) := by decide +kernel
theorem dX3_faultOfNote_5 : decode cX3_faultOfNote 5 = .ok (.ifCond .eq 5, 3) := by decide +kernel
theorem dX3_faultOfNote_8 : decode cX3_faultOfNote 8 = .ok (.iconst 1, 1) := by decide +kernel
theorem dX3_faultOfNote_9 : decode cX3_faultOfNote 9 = .ok (.ireturn, 1) := by decide +kernel
theorem dX3_faultOfNote_10 : decode cX3_faultOfNote 10 = .ok (.iload_n 2, 1) := by decide +kernel
theorem dX3_faultOfNote_11 : decode cX3_faultOfNote 11 = .ok (.iconst 1, 1) := by decide +kernel
theorem dX3_faultOfNote_12 : decode cX3_faultOfNote 12 = .ok (.sipush 500, 3) := by decide +kernel
theorem dX3_faultOfNote_15 : decode cX3_faultOfNote 15 = .ok (.invokestatic 66, 3) := by decide +kernel
theorem dX3_faultOfNote_18 : decode cX3_faultOfNote 18 = .ok (.ifCond .ne 5, 3) := by decide +kernel
theorem dX3_faultOfNote_21 : decode cX3_faultOfNote 21 = .ok (.iconst 2, 1) := by decide +kernel
theorem dX3_faultOfNote_22 : decode cX3_faultOfNote 22 = .ok (.ireturn, 1) := by decide +kernel
theorem dX3_faultOfNote_23 : decode cX3_faultOfNote 23 = .ok (.aload_n 0, 1) := by decide +kernel
theorem dX3_faultOfNote_24 : decode cX3_faultOfNote 24 = .ok (.getfield 26, 3) := by decide +kernel
theorem dX3_faultOfNote_27 : decode cX3_faultOfNote 27 = .ok (.iload_n 1, 1) := by decide +kernel
theorem dX3_faultOfNote_28 : decode cX3_faultOfNote 28 = .ok (.aaload, 1) := by decide +kernel
theorem dX3_faultOfNote_29 : decode cX3_faultOfNote 29 = .ok (.iload_n 2, 1) := by decide +kernel
theorem dX3_faultOfNote_30 : decode cX3_faultOfNote 30 = .ok (.invokevirtual 85, 3) := by decide +kernel
theorem dX3_faultOfNote_33 : decode cX3_faultOfNote 33 = .ok (.ifCond .eq 7, 3) := by decide +kernel
theorem dX3_faultOfNote_36 : decode cX3_faultOfNote 36 = .ok (.iconst 0, 1) := by decide +kernel
theorem dX3_faultOfNote_37 : decode cX3_faultOfNote 37 = .ok (.goto 4, 3) := by decide +kernel
theorem dX3_faultOfNote_40 : decode cX3_faultOfNote 40 = .ok (.iconst 3, 1) := by decide +kernel
theorem dX3_faultOfNote_41 : decode cX3_faultOfNote 41 = .ok (.ireturn, 1) := by decide +kernel
theorem dX3_faultOfPlan_0 : decode cX3_faultOfPlan 0 = .ok (.aload_n 0, 1) := by decide +kernel
theorem dX3_faultOfPlan_1 : decode cX3_faultOfPlan 1 = .ok (.iload_n 2, 1) := by decide +kernel
theorem dX3_faultOfPlan_2 : decode cX3_faultOfPlan 2 = .ok (.invokevirtual 78, 3) := by decide +kernel
theorem dX3_faultOfPlan_5 : decode cX3_faultOfPlan 5 = .ok (.ifCond .eq 5, 3) := by decide +kernel
theorem dX3_faultOfPlan_8 : decode cX3_faultOfPlan 8 = .ok (.iconst 1, 1) := by decide +kernel
theorem dX3_faultOfPlan_9 : decode cX3_faultOfPlan 9 = .ok (.ireturn, 1) := by decide +kernel
theorem dX3_faultOfPlan_10 : decode cX3_faultOfPlan 10 = .ok (.iload_n 1, 1) := by decide +kernel
theorem dX3_faultOfPlan_11 : decode cX3_faultOfPlan 11 = .ok (.iconst 1, 1) := by decide +kernel
theorem dX3_faultOfPlan_12 : decode cX3_faultOfPlan 12 = .ok (.bipush 99, 2) := by decide +kernel
theorem dX3_faultOfPlan_14 : decode cX3_faultOfPlan 14 = .ok (.invokestatic 66, 3) := by decide +kernel
theorem dX3_faultOfPlan_17 : decode cX3_faultOfPlan 17 = .ok (.ifCond .eq 14, 3) := by decide +kernel
theorem dX3_faultOfPlan_20 : decode cX3_faultOfPlan 20 = .ok (.iload_n 3, 1) := by decide +kernel
theorem dX3_faultOfPlan_21 : decode cX3_faultOfPlan 21 = .ok (.iconst 1, 1) := by decide +kernel
theorem dX3_faultOfPlan_22 : decode cX3_faultOfPlan 22 = .ok (.sipush 500, 3) := by decide +kernel
theorem dX3_faultOfPlan_25 : decode cX3_faultOfPlan 25 = .ok (.invokestatic 66, 3) := by decide +kernel
theorem dX3_faultOfPlan_28 : decode cX3_faultOfPlan 28 = .ok (.ifCond .ne 5, 3) := by decide +kernel
theorem dX3_faultOfPlan_31 : decode cX3_faultOfPlan 31 = .ok (.iconst 2, 1) := by decide +kernel
theorem dX3_faultOfPlan_32 : decode cX3_faultOfPlan 32 = .ok (.ireturn, 1) := by decide +kernel
theorem dX3_faultOfPlan_33 : decode cX3_faultOfPlan 33 = .ok (.aload_n 0, 1) := by decide +kernel
theorem dX3_faultOfPlan_34 : decode cX3_faultOfPlan 34 = .ok (.getfield 20, 3) := by decide +kernel
theorem dX3_faultOfPlan_37 : decode cX3_faultOfPlan 37 = .ok (.getfield 47, 3) := by decide +kernel
theorem dX3_faultOfPlan_40 : decode cX3_faultOfPlan 40 = .ok (.bipush 8, 2) := by decide +kernel
theorem dX3_faultOfPlan_42 : decode cX3_faultOfPlan 42 = .ok (.if_icmp .ge 7, 3) := by decide +kernel
theorem dX3_faultOfPlan_45 : decode cX3_faultOfPlan 45 = .ok (.iconst 0, 1) := by decide +kernel
theorem dX3_faultOfPlan_46 : decode cX3_faultOfPlan 46 = .ok (.goto 4, 3) := by decide +kernel
theorem dX3_faultOfPlan_49 : decode cX3_faultOfPlan 49 = .ok (.iconst 3, 1) := by decide +kernel
theorem dX3_faultOfPlan_50 : decode cX3_faultOfPlan 50 = .ok (.ireturn, 1) := by decide +kernel
theorem dX3_isValue_0 : decode cX3_isValue 0 = .ok (.iload_n 1, 1) := by decide +kernel
theorem dX3_isValue_1 : decode cX3_isValue 1 = .ok (.iconst 0, 1) := by decide +kernel
theorem dX3_isValue_2 : decode cX3_isValue 2 = .ok (.iconst 3, 1) := by decide +kernel
theorem dX3_isValue_3 : decode cX3_isValue 3 = .ok (.invokestatic 66, 3) := by decide +kernel
theorem dX3_isValue_6 : decode cX3_isValue 6 = .ok (.ifCond .eq 24, 3) := by decide +kernel
theorem dX3_isValue_9 : decode cX3_isValue 9 = .ok (.iload_n 2, 1) := by decide +kernel
theorem dX3_isValue_10 : decode cX3_isValue 10 = .ok (.getstatic 89, 3) := by decide +kernel
theorem dX3_isValue_13 : decode cX3_isValue 13 = .ok (.iload_n 1, 1) := by decide +kernel
theorem dX3_isValue_14 : decode cX3_isValue 14 = .ok (.iaload, 1) := by decide +kernel
theorem dX3_isValue_15 : decode cX3_isValue 15 = .ok (.getstatic 92, 3) := by decide +kernel
theorem dX3_isValue_18 : decode cX3_isValue 18 = .ok (.iload_n 1, 1) := by decide +kernel
theorem dX3_isValue_19 : decode cX3_isValue 19 = .ok (.iaload, 1) := by decide +kernel
theorem dX3_isValue_20 : decode cX3_isValue 20 = .ok (.invokestatic 66, 3) := by decide +kernel
theorem dX3_isValue_23 : decode cX3_isValue 23 = .ok (.ifCond .eq 7, 3) := by decide +kernel
theorem dX3_isValue_26 : decode cX3_isValue 26 = .ok (.iconst 1, 1) := by decide +kernel
theorem dX3_isValue_27 : decode cX3_isValue 27 = .ok (.goto 4, 3) := by decide +kernel
theorem dX3_isValue_30 : decode cX3_isValue 30 = .ok (.iconst 0, 1) := by decide +kernel
theorem dX3_isValue_31 : decode cX3_isValue 31 = .ok (.ireturn, 1) := by decide +kernel
theorem dX3_attempt_0 : decode cX3_attempt 0 = .ok (.aload_n 0, 1) := by decide +kernel
theorem dX3_attempt_1 : decode cX3_attempt 1 = .ok (.iload_n 1, 1) := by decide +kernel
theorem dX3_attempt_2 : decode cX3_attempt 2 = .ok (.iload_n 2, 1) := by decide +kernel
theorem dX3_attempt_3 : decode cX3_attempt 3 = .ok (.iload_n 3, 1) := by decide +kernel
theorem dX3_attempt_4 : decode cX3_attempt 4 = .ok (.iload 4, 2) := by decide +kernel
theorem dX3_attempt_6 : decode cX3_attempt 6 = .ok (.invokevirtual 95, 3) := by decide +kernel
theorem dX3_attempt_9 : decode cX3_attempt 9 = .ok (.ifCond .eq 5, 3) := by decide +kernel
theorem dX3_attempt_12 : decode cX3_attempt 12 = .ok (.iconst (-1), 1) := by decide +kernel
theorem dX3_attempt_13 : decode cX3_attempt 13 = .ok (.ireturn, 1) := by decide +kernel
theorem dX3_attempt_14 : decode cX3_attempt 14 = .ok (.iload_n 1, 1) := by decide +kernel
theorem dX3_attempt_15 : decode cX3_attempt 15 = .ok (.tableswitch 181 0 5 #[37, 44, 81, 105, 151, 170], 37) := by decide +kernel
theorem dX3_attempt_52 : decode cX3_attempt 52 = .ok (.aload_n 0, 1) := by decide +kernel
theorem dX3_attempt_53 : decode cX3_attempt 53 = .ok (.iload_n 2, 1) := by decide +kernel
theorem dX3_attempt_54 : decode cX3_attempt 54 = .ok (.invokevirtual 34, 3) := by decide +kernel
theorem dX3_attempt_57 : decode cX3_attempt 57 = .ok (.iload_n 2, 1) := by decide +kernel
theorem dX3_attempt_58 : decode cX3_attempt 58 = .ok (.ireturn, 1) := by decide +kernel
theorem dX3_attempt_59 : decode cX3_attempt 59 = .ok (.aload_n 0, 1) := by decide +kernel
theorem dX3_attempt_60 : decode cX3_attempt 60 = .ok (.getfield 26, 3) := by decide +kernel
theorem dX3_attempt_63 : decode cX3_attempt 63 = .ok (.iload_n 2, 1) := by decide +kernel
theorem dX3_attempt_64 : decode cX3_attempt 64 = .ok (.aaload, 1) := by decide +kernel
theorem dX3_attempt_65 : decode cX3_attempt 65 = .ok (.iload_n 3, 1) := by decide +kernel
theorem dX3_attempt_66 : decode cX3_attempt 66 = .ok (.invokevirtual 99, 3) := by decide +kernel
theorem dX3_attempt_69 : decode cX3_attempt 69 = .ok (.aload_n 0, 1) := by decide +kernel
theorem dX3_attempt_70 : decode cX3_attempt 70 = .ok (.getfield 26, 3) := by decide +kernel
theorem dX3_attempt_73 : decode cX3_attempt 73 = .ok (.iload_n 2, 1) := by decide +kernel
theorem dX3_attempt_74 : decode cX3_attempt 74 = .ok (.aaload, 1) := by decide +kernel
theorem dX3_attempt_75 : decode cX3_attempt 75 = .ok (.aload_n 0, 1) := by decide +kernel
theorem dX3_attempt_76 : decode cX3_attempt 76 = .ok (.getfield 44, 3) := by decide +kernel
theorem dX3_attempt_79 : decode cX3_attempt 79 = .ok (.aload_n 0, 1) := by decide +kernel
theorem dX3_attempt_80 : decode cX3_attempt 80 = .ok (.getfield 9, 3) := by decide +kernel
theorem dX3_attempt_83 : decode cX3_attempt 83 = .ok (.aload_n 0, 1) := by decide +kernel
theorem dX3_attempt_84 : decode cX3_attempt 84 = .ok (.getfield 26, 3) := by decide +kernel
theorem dX3_attempt_87 : decode cX3_attempt 87 = .ok (.iload_n 2, 1) := by decide +kernel
theorem dX3_attempt_88 : decode cX3_attempt 88 = .ok (.aaload, 1) := by decide +kernel
theorem dX3_attempt_89 : decode cX3_attempt 89 = .ok (.getfield 102, 3) := by decide +kernel
theorem dX3_attempt_92 : decode cX3_attempt 92 = .ok (.invokevirtual 106, 3) := by decide +kernel
theorem dX3_attempt_95 : decode cX3_attempt 95 = .ok (.ireturn, 1) := by decide +kernel
theorem dX3_attempt_96 : decode cX3_attempt 96 = .ok (.aload_n 0, 1) := by decide +kernel
theorem dX3_attempt_97 : decode cX3_attempt 97 = .ok (.getfield 20, 3) := by decide +kernel
theorem dX3_attempt_100 : decode cX3_attempt 100 = .ok (.aload_n 0, 1) := by decide +kernel
theorem dX3_attempt_101 : decode cX3_attempt 101 = .ok (.getfield 44, 3) := by decide +kernel
theorem dX3_attempt_104 : decode cX3_attempt 104 = .ok (.iload_n 2, 1) := by decide +kernel
theorem dX3_attempt_105 : decode cX3_attempt 105 = .ok (.iadd, 1) := by decide +kernel
theorem dX3_attempt_106 : decode cX3_attempt 106 = .ok (.iload_n 3, 1) := by decide +kernel
theorem dX3_attempt_107 : decode cX3_attempt 107 = .ok (.iload 4, 2) := by decide +kernel
theorem dX3_attempt_109 : decode cX3_attempt 109 = .ok (.invokevirtual 110, 3) := by decide +kernel
theorem dX3_attempt_112 : decode cX3_attempt 112 = .ok (.aload_n 0, 1) := by decide +kernel
theorem dX3_attempt_113 : decode cX3_attempt 113 = .ok (.getfield 20, 3) := by decide +kernel
theorem dX3_attempt_116 : decode cX3_attempt 116 = .ok (.getfield 47, 3) := by decide +kernel
theorem dX3_attempt_119 : decode cX3_attempt 119 = .ok (.ireturn, 1) := by decide +kernel
theorem dX3_attempt_120 : decode cX3_attempt 120 = .ok (.aload_n 0, 1) := by decide +kernel
theorem dX3_attempt_121 : decode cX3_attempt 121 = .ok (.getfield 26, 3) := by decide +kernel
theorem dX3_attempt_124 : decode cX3_attempt 124 = .ok (.iload_n 2, 1) := by decide +kernel
theorem dX3_attempt_125 : decode cX3_attempt 125 = .ok (.aaload, 1) := by decide +kernel
theorem dX3_attempt_126 : decode cX3_attempt 126 = .ok (.iload_n 3, 1) := by decide +kernel
theorem dX3_attempt_127 : decode cX3_attempt 127 = .ok (.iconst 1, 1) := by decide +kernel
theorem dX3_attempt_128 : decode cX3_attempt 128 = .ok (.if_icmp .ne 7, 3) := by decide +kernel
theorem dX3_attempt_131 : decode cX3_attempt 131 = .ok (.iconst 1, 1) := by decide +kernel
theorem dX3_attempt_132 : decode cX3_attempt 132 = .ok (.goto 4, 3) := by decide +kernel
theorem dX3_attempt_135 : decode cX3_attempt 135 = .ok (.iconst 0, 1) := by decide +kernel
theorem dX3_attempt_136 : decode cX3_attempt 136 = .ok (.putfield 102, 3) := by decide +kernel
theorem dX3_attempt_139 : decode cX3_attempt 139 = .ok (.aload_n 0, 1) := by decide +kernel
theorem dX3_attempt_140 : decode cX3_attempt 140 = .ok (.getfield 26, 3) := by decide +kernel
theorem dX3_attempt_143 : decode cX3_attempt 143 = .ok (.iload_n 2, 1) := by decide +kernel
theorem dX3_attempt_144 : decode cX3_attempt 144 = .ok (.aaload, 1) := by decide +kernel
theorem dX3_attempt_145 : decode cX3_attempt 145 = .ok (.aload_n 0, 1) := by decide +kernel
theorem dX3_attempt_146 : decode cX3_attempt 146 = .ok (.getfield 44, 3) := by decide +kernel
theorem dX3_attempt_149 : decode cX3_attempt 149 = .ok (.aload_n 0, 1) := by decide +kernel
theorem dX3_attempt_150 : decode cX3_attempt 150 = .ok (.getfield 9, 3) := by decide +kernel
theorem dX3_attempt_153 : decode cX3_attempt 153 = .ok (.aload_n 0, 1) := by decide +kernel
theorem dX3_attempt_154 : decode cX3_attempt 154 = .ok (.getfield 26, 3) := by decide +kernel
theorem dX3_attempt_157 : decode cX3_attempt 157 = .ok (.iload_n 2, 1) := by decide +kernel
theorem dX3_attempt_158 : decode cX3_attempt 158 = .ok (.aaload, 1) := by decide +kernel
theorem dX3_attempt_159 : decode cX3_attempt 159 = .ok (.getfield 102, 3) := by decide +kernel
theorem dX3_attempt_162 : decode cX3_attempt 162 = .ok (.invokevirtual 106, 3) := by decide +kernel
theorem dX3_attempt_165 : decode cX3_attempt 165 = .ok (.ireturn, 1) := by decide +kernel
theorem dX3_attempt_166 : decode cX3_attempt 166 = .ok (.aload_n 0, 1) := by decide +kernel
theorem dX3_attempt_167 : decode cX3_attempt 167 = .ok (.getfield 26, 3) := by decide +kernel
theorem dX3_attempt_170 : decode cX3_attempt 170 = .ok (.iload_n 2, 1) := by decide +kernel
theorem dX3_attempt_171 : decode cX3_attempt 171 = .ok (.aaload, 1) := by decide +kernel
theorem dX3_attempt_172 : decode cX3_attempt 172 = .ok (.aload_n 0, 1) := by decide +kernel
theorem dX3_attempt_173 : decode cX3_attempt 173 = .ok (.getfield 44, 3) := by decide +kernel
theorem dX3_attempt_176 : decode cX3_attempt 176 = .ok (.aload_n 0, 1) := by decide +kernel
theorem dX3_attempt_177 : decode cX3_attempt 177 = .ok (.getfield 9, 3) := by decide +kernel
theorem dX3_attempt_180 : decode cX3_attempt 180 = .ok (.iconst 0, 1) := by decide +kernel
theorem dX3_attempt_181 : decode cX3_attempt 181 = .ok (.invokevirtual 106, 3) := by decide +kernel
theorem dX3_attempt_184 : decode cX3_attempt 184 = .ok (.ireturn, 1) := by decide +kernel
theorem dX3_attempt_185 : decode cX3_attempt 185 = .ok (.aload_n 0, 1) := by decide +kernel
theorem dX3_attempt_186 : decode cX3_attempt 186 = .ok (.iload_n 2, 1) := by decide +kernel
theorem dX3_attempt_187 : decode cX3_attempt 187 = .ok (.iconst 0, 1) := by decide +kernel
theorem dX3_attempt_188 : decode cX3_attempt 188 = .ok (.aload_n 0, 1) := by decide +kernel
theorem dX3_attempt_189 : decode cX3_attempt 189 = .ok (.getfield 40, 3) := by decide +kernel
theorem dX3_attempt_192 : decode cX3_attempt 192 = .ok (.invokevirtual 114, 3) := by decide +kernel
theorem dX3_attempt_195 : decode cX3_attempt 195 = .ok (.ireturn, 1) := by decide +kernel
theorem dX3_attempt_196 : decode cX3_attempt 196 = .ok (.aload_n 0, 1) := by decide +kernel
theorem dX3_attempt_197 : decode cX3_attempt 197 = .ok (.iload_n 2, 1) := by decide +kernel
theorem dX3_attempt_198 : decode cX3_attempt 198 = .ok (.iload_n 3, 1) := by decide +kernel
theorem dX3_attempt_199 : decode cX3_attempt 199 = .ok (.invokevirtual 117, 3) := by decide +kernel
theorem dX3_attempt_202 : decode cX3_attempt 202 = .ok (.ireturn, 1) := by decide +kernel
theorem dX3_replaceSetting_0 : decode cX3_replaceSetting 0 = .ok (.aload_n 0, 1) := by decide +kernel
theorem dX3_replaceSetting_1 : decode cX3_replaceSetting 1 = .ok (.getfield 9, 3) := by decide +kernel
theorem dX3_replaceSetting_4 : decode cX3_replaceSetting 4 = .ok (.iload_n 1, 1) := by decide +kernel
theorem dX3_replaceSetting_5 : decode cX3_replaceSetting 5 = .ok (.iaload, 1) := by decide +kernel
theorem dX3_replaceSetting_6 : decode cX3_replaceSetting 6 = .ok (.istore_n 3, 1) := by decide +kernel
theorem dX3_replaceSetting_7 : decode cX3_replaceSetting 7 = .ok (.aload_n 0, 1) := by decide +kernel
theorem dX3_replaceSetting_8 : decode cX3_replaceSetting 8 = .ok (.getfield 9, 3) := by decide +kernel
theorem dX3_replaceSetting_11 : decode cX3_replaceSetting 11 = .ok (.iload_n 1, 1) := by decide +kernel
theorem dX3_replaceSetting_12 : decode cX3_replaceSetting 12 = .ok (.iload_n 2, 1) := by decide +kernel
theorem dX3_replaceSetting_13 : decode cX3_replaceSetting 13 = .ok (.iastore, 1) := by decide +kernel
theorem dX3_replaceSetting_14 : decode cX3_replaceSetting 14 = .ok (.iload_n 3, 1) := by decide +kernel
theorem dX3_replaceSetting_15 : decode cX3_replaceSetting 15 = .ok (.ireturn, 1) := by decide +kernel
theorem dX3_passTicks_0 : decode cX3_passTicks 0 = .ok (.iconst 0, 1) := by decide +kernel
theorem dX3_passTicks_1 : decode cX3_passTicks 1 = .ok (.istore 4, 2) := by decide +kernel
theorem dX3_passTicks_3 : decode cX3_passTicks 3 = .ok (.iconst 0, 1) := by decide +kernel
theorem dX3_passTicks_4 : decode cX3_passTicks 4 = .ok (.istore 5, 2) := by decide +kernel
theorem dX3_passTicks_6 : decode cX3_passTicks 6 = .ok (.iload 5, 2) := by decide +kernel
theorem dX3_passTicks_8 : decode cX3_passTicks 8 = .ok (.iload_n 1, 1) := by decide +kernel
theorem dX3_passTicks_9 : decode cX3_passTicks 9 = .ok (.if_icmp .ge 152, 3) := by decide +kernel
theorem dX3_passTicks_12 : decode cX3_passTicks 12 = .ok (.aload_n 0, 1) := by decide +kernel
theorem dX3_passTicks_13 : decode cX3_passTicks 13 = .ok (.dup, 1) := by decide +kernel
theorem dX3_passTicks_14 : decode cX3_passTicks 14 = .ok (.getfield 44, 3) := by decide +kernel
theorem dX3_passTicks_17 : decode cX3_passTicks 17 = .ok (.iconst 1, 1) := by decide +kernel
theorem dX3_passTicks_18 : decode cX3_passTicks 18 = .ok (.iadd, 1) := by decide +kernel
theorem dX3_passTicks_19 : decode cX3_passTicks 19 = .ok (.putfield 44, 3) := by decide +kernel
theorem dX3_passTicks_22 : decode cX3_passTicks 22 = .ok (.aload_n 0, 1) := by decide +kernel
theorem dX3_passTicks_23 : decode cX3_passTicks 23 = .ok (.invokevirtual 120, 3) := by decide +kernel
theorem dX3_passTicks_26 : decode cX3_passTicks 26 = .ok (.iload_n 2, 1) := by decide +kernel
theorem dX3_passTicks_27 : decode cX3_passTicks 27 = .ok (.iconst 0, 1) := by decide +kernel
theorem dX3_passTicks_28 : decode cX3_passTicks 28 = .ok (.invokestatic 123, 3) := by decide +kernel
theorem dX3_passTicks_31 : decode cX3_passTicks 31 = .ok (.istore 6, 2) := by decide +kernel
theorem dX3_passTicks_33 : decode cX3_passTicks 33 = .ok (.iload 6, 2) := by decide +kernel
theorem dX3_passTicks_35 : decode cX3_passTicks 35 = .ok (.iload_n 3, 1) := by decide +kernel
theorem dX3_passTicks_36 : decode cX3_passTicks 36 = .ok (.if_icmp .ge 119, 3) := by decide +kernel
theorem dX3_passTicks_39 : decode cX3_passTicks 39 = .ok (.iload 6, 2) := by decide +kernel
theorem dX3_passTicks_41 : decode cX3_passTicks 41 = .ok (.iconst 4, 1) := by decide +kernel
theorem dX3_passTicks_42 : decode cX3_passTicks 42 = .ok (.if_icmp .ge 113, 3) := by decide +kernel
theorem dX3_passTicks_45 : decode cX3_passTicks 45 = .ok (.aload_n 0, 1) := by decide +kernel
theorem dX3_passTicks_46 : decode cX3_passTicks 46 = .ok (.getfield 26, 3) := by decide +kernel
theorem dX3_passTicks_49 : decode cX3_passTicks 49 = .ok (.iload 6, 2) := by decide +kernel
theorem dX3_passTicks_51 : decode cX3_passTicks 51 = .ok (.aaload, 1) := by decide +kernel
theorem dX3_passTicks_52 : decode cX3_passTicks 52 = .ok (.astore 7, 2) := by decide +kernel
theorem dX3_passTicks_54 : decode cX3_passTicks 54 = .ok (.iload 4, 2) := by decide +kernel
theorem dX3_passTicks_56 : decode cX3_passTicks 56 = .ok (.aload 7, 2) := by decide +kernel
theorem dX3_passTicks_58 : decode cX3_passTicks 58 = .ok (.aload_n 0, 1) := by decide +kernel
theorem dX3_passTicks_59 : decode cX3_passTicks 59 = .ok (.getfield 44, 3) := by decide +kernel
theorem dX3_passTicks_62 : decode cX3_passTicks 62 = .ok (.aload_n 0, 1) := by decide +kernel
theorem dX3_passTicks_63 : decode cX3_passTicks 63 = .ok (.getfield 9, 3) := by decide +kernel
theorem dX3_passTicks_66 : decode cX3_passTicks 66 = .ok (.invokevirtual 128, 3) := by decide +kernel
theorem dX3_passTicks_69 : decode cX3_passTicks 69 = .ok (.iadd, 1) := by decide +kernel
theorem dX3_passTicks_70 : decode cX3_passTicks 70 = .ok (.istore 4, 2) := by decide +kernel
theorem dX3_passTicks_72 : decode cX3_passTicks 72 = .ok (.aload 7, 2) := by decide +kernel
theorem dX3_passTicks_74 : decode cX3_passTicks 74 = .ok (.getfield 132, 3) := by decide +kernel
theorem dX3_passTicks_77 : decode cX3_passTicks 77 = .ok (.aload_n 0, 1) := by decide +kernel
theorem dX3_passTicks_78 : decode cX3_passTicks 78 = .ok (.getfield 44, 3) := by decide +kernel
theorem dX3_passTicks_81 : decode cX3_passTicks 81 = .ok (.if_icmp .ne 18, 3) := by decide +kernel
theorem dX3_passTicks_84 : decode cX3_passTicks 84 = .ok (.aload 7, 2) := by decide +kernel
theorem dX3_passTicks_86 : decode cX3_passTicks 86 = .ok (.aload_n 0, 1) := by decide +kernel
theorem dX3_passTicks_87 : decode cX3_passTicks 87 = .ok (.getfield 44, 3) := by decide +kernel
theorem dX3_passTicks_90 : decode cX3_passTicks 90 = .ok (.aload_n 0, 1) := by decide +kernel
theorem dX3_passTicks_91 : decode cX3_passTicks 91 = .ok (.getfield 9, 3) := by decide +kernel
theorem dX3_passTicks_94 : decode cX3_passTicks 94 = .ok (.iconst 0, 1) := by decide +kernel
theorem dX3_passTicks_95 : decode cX3_passTicks 95 = .ok (.iaload, 1) := by decide +kernel
theorem dX3_passTicks_96 : decode cX3_passTicks 96 = .ok (.invokevirtual 135, 3) := by decide +kernel
theorem dX3_passTicks_99 : decode cX3_passTicks 99 = .ok (.aload 7, 2) := by decide +kernel
theorem dX3_passTicks_101 : decode cX3_passTicks 101 = .ok (.aload_n 0, 1) := by decide +kernel
theorem dX3_passTicks_102 : decode cX3_passTicks 102 = .ok (.getfield 44, 3) := by decide +kernel
theorem dX3_passTicks_105 : decode cX3_passTicks 105 = .ok (.invokevirtual 139, 3) := by decide +kernel
theorem dX3_passTicks_108 : decode cX3_passTicks 108 = .ok (.ifCond .eq 22, 3) := by decide +kernel
theorem dX3_passTicks_111 : decode cX3_passTicks 111 = .ok (.aload 7, 2) := by decide +kernel
theorem dX3_passTicks_113 : decode cX3_passTicks 113 = .ok (.aload_n 0, 1) := by decide +kernel
theorem dX3_passTicks_114 : decode cX3_passTicks 114 = .ok (.getfield 44, 3) := by decide +kernel
theorem dX3_passTicks_117 : decode cX3_passTicks 117 = .ok (.aload_n 0, 1) := by decide +kernel
theorem dX3_passTicks_118 : decode cX3_passTicks 118 = .ok (.getfield 9, 3) := by decide +kernel
theorem dX3_passTicks_121 : decode cX3_passTicks 121 = .ok (.aload 7, 2) := by decide +kernel
theorem dX3_passTicks_123 : decode cX3_passTicks 123 = .ok (.getfield 102, 3) := by decide +kernel
theorem dX3_passTicks_126 : decode cX3_passTicks 126 = .ok (.invokevirtual 106, 3) := by decide +kernel
theorem dX3_passTicks_129 : decode cX3_passTicks 129 = .ok (.pop, 1) := by decide +kernel
theorem dX3_passTicks_130 : decode cX3_passTicks 130 = .ok (.aload 7, 2) := by decide +kernel
theorem dX3_passTicks_132 : decode cX3_passTicks 132 = .ok (.getfield 142, 3) := by decide +kernel
theorem dX3_passTicks_135 : decode cX3_passTicks 135 = .ok (.ifCond .le 14, 3) := by decide +kernel
theorem dX3_passTicks_138 : decode cX3_passTicks 138 = .ok (.aload 7, 2) := by decide +kernel
theorem dX3_passTicks_140 : decode cX3_passTicks 140 = .ok (.dup, 1) := by decide +kernel
theorem dX3_passTicks_141 : decode cX3_passTicks 141 = .ok (.getfield 145, 3) := by decide +kernel
theorem dX3_passTicks_144 : decode cX3_passTicks 144 = .ok (.iconst 1, 1) := by decide +kernel
theorem dX3_passTicks_145 : decode cX3_passTicks 145 = .ok (.iadd, 1) := by decide +kernel
theorem dX3_passTicks_146 : decode cX3_passTicks 146 = .ok (.putfield 145, 3) := by decide +kernel
theorem dX3_passTicks_149 : decode cX3_passTicks 149 = .ok (.iinc 6 1, 3) := by decide +kernel
theorem dX3_passTicks_152 : decode cX3_passTicks 152 = .ok (.goto (-119), 3) := by decide +kernel
theorem dX3_passTicks_155 : decode cX3_passTicks 155 = .ok (.iinc 5 1, 3) := by decide +kernel
theorem dX3_passTicks_158 : decode cX3_passTicks 158 = .ok (.goto (-152), 3) := by decide +kernel
theorem dX3_passTicks_161 : decode cX3_passTicks 161 = .ok (.iload 4, 2) := by decide +kernel
theorem dX3_passTicks_163 : decode cX3_passTicks 163 = .ok (.ireturn, 1) := by decide +kernel
theorem dX3_writeDueNotes_0 : decode cX3_writeDueNotes 0 = .ok (.iconst 0, 1) := by decide +kernel
theorem dX3_writeDueNotes_1 : decode cX3_writeDueNotes 1 = .ok (.istore_n 1, 1) := by decide +kernel
theorem dX3_writeDueNotes_2 : decode cX3_writeDueNotes 2 = .ok (.aload_n 0, 1) := by decide +kernel
theorem dX3_writeDueNotes_3 : decode cX3_writeDueNotes 3 = .ok (.getfield 20, 3) := by decide +kernel
theorem dX3_writeDueNotes_6 : decode cX3_writeDueNotes 6 = .ok (.getfield 47, 3) := by decide +kernel
theorem dX3_writeDueNotes_9 : decode cX3_writeDueNotes 9 = .ok (.istore_n 2, 1) := by decide +kernel
theorem dX3_writeDueNotes_10 : decode cX3_writeDueNotes 10 = .ok (.iload_n 2, 1) := by decide +kernel
theorem dX3_writeDueNotes_11 : decode cX3_writeDueNotes 11 = .ok (.ifCond .le 105, 3) := by decide +kernel
theorem dX3_writeDueNotes_14 : decode cX3_writeDueNotes 14 = .ok (.aload_n 0, 1) := by decide +kernel
theorem dX3_writeDueNotes_15 : decode cX3_writeDueNotes 15 = .ok (.getfield 20, 3) := by decide +kernel
theorem dX3_writeDueNotes_18 : decode cX3_writeDueNotes 18 = .ok (.iload_n 1, 1) := by decide +kernel
theorem dX3_writeDueNotes_19 : decode cX3_writeDueNotes 19 = .ok (.invokevirtual 148, 3) := by decide +kernel
theorem dX3_writeDueNotes_22 : decode cX3_writeDueNotes 22 = .ok (.aload_n 0, 1) := by decide +kernel
theorem dX3_writeDueNotes_23 : decode cX3_writeDueNotes 23 = .ok (.getfield 44, 3) := by decide +kernel
theorem dX3_writeDueNotes_26 : decode cX3_writeDueNotes 26 = .ok (.if_icmp .eq 9, 3) := by decide +kernel
theorem dX3_writeDueNotes_29 : decode cX3_writeDueNotes 29 = .ok (.iinc 1 1, 3) := by decide +kernel
theorem dX3_writeDueNotes_32 : decode cX3_writeDueNotes 32 = .ok (.goto 78, 3) := by decide +kernel
theorem dX3_writeDueNotes_35 : decode cX3_writeDueNotes 35 = .ok (.aload_n 0, 1) := by decide +kernel
theorem dX3_writeDueNotes_36 : decode cX3_writeDueNotes 36 = .ok (.getfield 20, 3) := by decide +kernel
theorem dX3_writeDueNotes_39 : decode cX3_writeDueNotes 39 = .ok (.iload_n 1, 1) := by decide +kernel
theorem dX3_writeDueNotes_40 : decode cX3_writeDueNotes 40 = .ok (.invokevirtual 151, 3) := by decide +kernel
theorem dX3_writeDueNotes_43 : decode cX3_writeDueNotes 43 = .ok (.istore_n 3, 1) := by decide +kernel
theorem dX3_writeDueNotes_44 : decode cX3_writeDueNotes 44 = .ok (.aload_n 0, 1) := by decide +kernel
theorem dX3_writeDueNotes_45 : decode cX3_writeDueNotes 45 = .ok (.getfield 20, 3) := by decide +kernel
theorem dX3_writeDueNotes_48 : decode cX3_writeDueNotes 48 = .ok (.iload_n 1, 1) := by decide +kernel
theorem dX3_writeDueNotes_49 : decode cX3_writeDueNotes 49 = .ok (.invokevirtual 154, 3) := by decide +kernel
theorem dX3_writeDueNotes_52 : decode cX3_writeDueNotes 52 = .ok (.istore 4, 2) := by decide +kernel
theorem dX3_writeDueNotes_54 : decode cX3_writeDueNotes 54 = .ok (.aload_n 0, 1) := by decide +kernel
theorem dX3_writeDueNotes_55 : decode cX3_writeDueNotes 55 = .ok (.getfield 20, 3) := by decide +kernel
theorem dX3_writeDueNotes_58 : decode cX3_writeDueNotes 58 = .ok (.iload_n 1, 1) := by decide +kernel
theorem dX3_writeDueNotes_59 : decode cX3_writeDueNotes 59 = .ok (.invokevirtual 157, 3) := by decide +kernel
theorem dX3_writeDueNotes_62 : decode cX3_writeDueNotes 62 = .ok (.aload_n 0, 1) := by decide +kernel
theorem dX3_writeDueNotes_63 : decode cX3_writeDueNotes 63 = .ok (.iload_n 3, 1) := by decide +kernel
theorem dX3_writeDueNotes_64 : decode cX3_writeDueNotes 64 = .ok (.iload 4, 2) := by decide +kernel
theorem dX3_writeDueNotes_66 : decode cX3_writeDueNotes 66 = .ok (.invokevirtual 70, 3) := by decide +kernel
theorem dX3_writeDueNotes_69 : decode cX3_writeDueNotes 69 = .ok (.ifCond .ne 41, 3) := by decide +kernel
theorem dX3_writeDueNotes_72 : decode cX3_writeDueNotes 72 = .ok (.aload_n 0, 1) := by decide +kernel
theorem dX3_writeDueNotes_73 : decode cX3_writeDueNotes 73 = .ok (.getfield 26, 3) := by decide +kernel
theorem dX3_writeDueNotes_76 : decode cX3_writeDueNotes 76 = .ok (.iload_n 3, 1) := by decide +kernel
theorem dX3_writeDueNotes_77 : decode cX3_writeDueNotes 77 = .ok (.aaload, 1) := by decide +kernel
theorem dX3_writeDueNotes_78 : decode cX3_writeDueNotes 78 = .ok (.iload 4, 2) := by decide +kernel
theorem dX3_writeDueNotes_80 : decode cX3_writeDueNotes 80 = .ok (.invokevirtual 99, 3) := by decide +kernel
theorem dX3_writeDueNotes_83 : decode cX3_writeDueNotes 83 = .ok (.aload_n 0, 1) := by decide +kernel
theorem dX3_writeDueNotes_84 : decode cX3_writeDueNotes 84 = .ok (.getfield 26, 3) := by decide +kernel
theorem dX3_writeDueNotes_87 : decode cX3_writeDueNotes 87 = .ok (.iload_n 3, 1) := by decide +kernel
theorem dX3_writeDueNotes_88 : decode cX3_writeDueNotes 88 = .ok (.aaload, 1) := by decide +kernel
theorem dX3_writeDueNotes_89 : decode cX3_writeDueNotes 89 = .ok (.aload_n 0, 1) := by decide +kernel
theorem dX3_writeDueNotes_90 : decode cX3_writeDueNotes 90 = .ok (.getfield 44, 3) := by decide +kernel
theorem dX3_writeDueNotes_93 : decode cX3_writeDueNotes 93 = .ok (.aload_n 0, 1) := by decide +kernel
theorem dX3_writeDueNotes_94 : decode cX3_writeDueNotes 94 = .ok (.getfield 9, 3) := by decide +kernel
theorem dX3_writeDueNotes_97 : decode cX3_writeDueNotes 97 = .ok (.aload_n 0, 1) := by decide +kernel
theorem dX3_writeDueNotes_98 : decode cX3_writeDueNotes 98 = .ok (.getfield 26, 3) := by decide +kernel
theorem dX3_writeDueNotes_101 : decode cX3_writeDueNotes 101 = .ok (.iload_n 3, 1) := by decide +kernel
theorem dX3_writeDueNotes_102 : decode cX3_writeDueNotes 102 = .ok (.aaload, 1) := by decide +kernel
theorem dX3_writeDueNotes_103 : decode cX3_writeDueNotes 103 = .ok (.getfield 102, 3) := by decide +kernel
theorem dX3_writeDueNotes_106 : decode cX3_writeDueNotes 106 = .ok (.invokevirtual 106, 3) := by decide +kernel
theorem dX3_writeDueNotes_109 : decode cX3_writeDueNotes 109 = .ok (.pop, 1) := by decide +kernel
theorem dX3_writeDueNotes_110 : decode cX3_writeDueNotes 110 = .ok (.iinc 2 (-1), 3) := by decide +kernel
theorem dX3_writeDueNotes_113 : decode cX3_writeDueNotes 113 = .ok (.goto (-103), 3) := by decide +kernel
theorem dX3_writeDueNotes_116 : decode cX3_writeDueNotes 116 = .ok (.return_, 1) := by decide +kernel
theorem dX3_hasPlannedFor_0 : decode cX3_hasPlannedFor 0 = .ok (.iconst 0, 1) := by decide +kernel
theorem dX3_hasPlannedFor_1 : decode cX3_hasPlannedFor 1 = .ok (.istore_n 2, 1) := by decide +kernel
theorem dX3_hasPlannedFor_2 : decode cX3_hasPlannedFor 2 = .ok (.iload_n 2, 1) := by decide +kernel
theorem dX3_hasPlannedFor_3 : decode cX3_hasPlannedFor 3 = .ok (.aload_n 0, 1) := by decide +kernel
theorem dX3_hasPlannedFor_4 : decode cX3_hasPlannedFor 4 = .ok (.getfield 20, 3) := by decide +kernel
theorem dX3_hasPlannedFor_7 : decode cX3_hasPlannedFor 7 = .ok (.getfield 47, 3) := by decide +kernel
theorem dX3_hasPlannedFor_10 : decode cX3_hasPlannedFor 10 = .ok (.if_icmp .ge 23, 3) := by decide +kernel
theorem dX3_hasPlannedFor_13 : decode cX3_hasPlannedFor 13 = .ok (.aload_n 0, 1) := by decide +kernel
theorem dX3_hasPlannedFor_14 : decode cX3_hasPlannedFor 14 = .ok (.getfield 20, 3) := by decide +kernel
theorem dX3_hasPlannedFor_17 : decode cX3_hasPlannedFor 17 = .ok (.iload_n 2, 1) := by decide +kernel
theorem dX3_hasPlannedFor_18 : decode cX3_hasPlannedFor 18 = .ok (.invokevirtual 151, 3) := by decide +kernel
theorem dX3_hasPlannedFor_21 : decode cX3_hasPlannedFor 21 = .ok (.iload_n 1, 1) := by decide +kernel
theorem dX3_hasPlannedFor_22 : decode cX3_hasPlannedFor 22 = .ok (.if_icmp .ne 5, 3) := by decide +kernel
theorem dX3_hasPlannedFor_25 : decode cX3_hasPlannedFor 25 = .ok (.iconst 1, 1) := by decide +kernel
theorem dX3_hasPlannedFor_26 : decode cX3_hasPlannedFor 26 = .ok (.ireturn, 1) := by decide +kernel
theorem dX3_hasPlannedFor_27 : decode cX3_hasPlannedFor 27 = .ok (.iinc 2 1, 3) := by decide +kernel
theorem dX3_hasPlannedFor_30 : decode cX3_hasPlannedFor 30 = .ok (.goto (-28), 3) := by decide +kernel
theorem dX3_hasPlannedFor_33 : decode cX3_hasPlannedFor 33 = .ok (.iconst 0, 1) := by decide +kernel
theorem dX3_hasPlannedFor_34 : decode cX3_hasPlannedFor 34 = .ok (.ireturn, 1) := by decide +kernel
theorem dX3_isDone_0 : decode cX3_isDone 0 = .ok (.aload_n 0, 1) := by decide +kernel
theorem dX3_isDone_1 : decode cX3_isDone 1 = .ok (.getfield 26, 3) := by decide +kernel
theorem dX3_isDone_4 : decode cX3_isDone 4 = .ok (.iload_n 1, 1) := by decide +kernel
theorem dX3_isDone_5 : decode cX3_isDone 5 = .ok (.aaload, 1) := by decide +kernel
theorem dX3_isDone_6 : decode cX3_isDone 6 = .ok (.getfield 142, 3) := by decide +kernel
theorem dX3_isDone_9 : decode cX3_isDone 9 = .ok (.ifCond .ne 30, 3) := by decide +kernel
theorem dX3_isDone_12 : decode cX3_isDone 12 = .ok (.aload_n 0, 1) := by decide +kernel
theorem dX3_isDone_13 : decode cX3_isDone 13 = .ok (.getfield 26, 3) := by decide +kernel
theorem dX3_isDone_16 : decode cX3_isDone 16 = .ok (.iload_n 1, 1) := by decide +kernel
theorem dX3_isDone_17 : decode cX3_isDone 17 = .ok (.aaload, 1) := by decide +kernel
theorem dX3_isDone_18 : decode cX3_isDone 18 = .ok (.getfield 160, 3) := by decide +kernel
theorem dX3_isDone_21 : decode cX3_isDone 21 = .ok (.getfield 47, 3) := by decide +kernel
theorem dX3_isDone_24 : decode cX3_isDone 24 = .ok (.ifCond .ne 15, 3) := by decide +kernel
theorem dX3_isDone_27 : decode cX3_isDone 27 = .ok (.aload_n 0, 1) := by decide +kernel
theorem dX3_isDone_28 : decode cX3_isDone 28 = .ok (.iload_n 1, 1) := by decide +kernel
theorem dX3_isDone_29 : decode cX3_isDone 29 = .ok (.invokevirtual 163, 3) := by decide +kernel
theorem dX3_isDone_32 : decode cX3_isDone 32 = .ok (.ifCond .ne 7, 3) := by decide +kernel
theorem dX3_isDone_35 : decode cX3_isDone 35 = .ok (.iconst 1, 1) := by decide +kernel
theorem dX3_isDone_36 : decode cX3_isDone 36 = .ok (.goto 4, 3) := by decide +kernel
theorem dX3_isDone_39 : decode cX3_isDone 39 = .ok (.iconst 0, 1) := by decide +kernel
theorem dX3_isDone_40 : decode cX3_isDone 40 = .ok (.ireturn, 1) := by decide +kernel
theorem dX3_ticksUntilDone_0 : decode cX3_ticksUntilDone 0 = .ok (.iconst 0, 1) := by decide +kernel
theorem dX3_ticksUntilDone_1 : decode cX3_ticksUntilDone 1 = .ok (.istore_n 3, 1) := by decide +kernel
theorem dX3_ticksUntilDone_2 : decode cX3_ticksUntilDone 2 = .ok (.iload_n 3, 1) := by decide +kernel
theorem dX3_ticksUntilDone_3 : decode cX3_ticksUntilDone 3 = .ok (.iload_n 2, 1) := by decide +kernel
theorem dX3_ticksUntilDone_4 : decode cX3_ticksUntilDone 4 = .ok (.if_icmp .gt 29, 3) := by decide +kernel
theorem dX3_ticksUntilDone_7 : decode cX3_ticksUntilDone 7 = .ok (.aload_n 0, 1) := by decide +kernel
theorem dX3_ticksUntilDone_8 : decode cX3_ticksUntilDone 8 = .ok (.iload_n 1, 1) := by decide +kernel
theorem dX3_ticksUntilDone_9 : decode cX3_ticksUntilDone 9 = .ok (.invokevirtual 166, 3) := by decide +kernel
theorem dX3_ticksUntilDone_12 : decode cX3_ticksUntilDone 12 = .ok (.ifCond .eq 5, 3) := by decide +kernel
theorem dX3_ticksUntilDone_15 : decode cX3_ticksUntilDone 15 = .ok (.iload_n 3, 1) := by decide +kernel
theorem dX3_ticksUntilDone_16 : decode cX3_ticksUntilDone 16 = .ok (.ireturn, 1) := by decide +kernel
theorem dX3_ticksUntilDone_17 : decode cX3_ticksUntilDone 17 = .ok (.aload_n 0, 1) := by decide +kernel
theorem dX3_ticksUntilDone_18 : decode cX3_ticksUntilDone 18 = .ok (.iconst 1, 1) := by decide +kernel
theorem dX3_ticksUntilDone_19 : decode cX3_ticksUntilDone 19 = .ok (.iload_n 1, 1) := by decide +kernel
theorem dX3_ticksUntilDone_20 : decode cX3_ticksUntilDone 20 = .ok (.iload_n 1, 1) := by decide +kernel
theorem dX3_ticksUntilDone_21 : decode cX3_ticksUntilDone 21 = .ok (.iconst 1, 1) := by decide +kernel
theorem dX3_ticksUntilDone_22 : decode cX3_ticksUntilDone 22 = .ok (.iadd, 1) := by decide +kernel
theorem dX3_ticksUntilDone_23 : decode cX3_ticksUntilDone 23 = .ok (.invokevirtual 114, 3) := by decide +kernel
theorem dX3_ticksUntilDone_26 : decode cX3_ticksUntilDone 26 = .ok (.pop, 1) := by decide +kernel
theorem dX3_ticksUntilDone_27 : decode cX3_ticksUntilDone 27 = .ok (.iinc 3 1, 3) := by decide +kernel
theorem dX3_ticksUntilDone_30 : decode cX3_ticksUntilDone 30 = .ok (.goto (-28), 3) := by decide +kernel
theorem dX3_ticksUntilDone_33 : decode cX3_ticksUntilDone 33 = .ok (.iconst (-1), 1) := by decide +kernel
theorem dX3_ticksUntilDone_34 : decode cX3_ticksUntilDone 34 = .ok (.ireturn, 1) := by decide +kernel
theorem dX3_ticksUntilThere_0 : decode cX3_ticksUntilThere 0 = .ok (.iconst 0, 1) := by decide +kernel
theorem dX3_ticksUntilThere_1 : decode cX3_ticksUntilThere 1 = .ok (.istore_n 3, 1) := by decide +kernel
theorem dX3_ticksUntilThere_2 : decode cX3_ticksUntilThere 2 = .ok (.iload_n 3, 1) := by decide +kernel
theorem dX3_ticksUntilThere_3 : decode cX3_ticksUntilThere 3 = .ok (.sipush 400, 3) := by decide +kernel
theorem dX3_ticksUntilThere_6 : decode cX3_ticksUntilThere 6 = .ok (.if_icmp .gt 34, 3) := by decide +kernel
theorem dX3_ticksUntilThere_9 : decode cX3_ticksUntilThere 9 = .ok (.aload_n 0, 1) := by decide +kernel
theorem dX3_ticksUntilThere_10 : decode cX3_ticksUntilThere 10 = .ok (.getfield 26, 3) := by decide +kernel
theorem dX3_ticksUntilThere_13 : decode cX3_ticksUntilThere 13 = .ok (.iload_n 1, 1) := by decide +kernel
theorem dX3_ticksUntilThere_14 : decode cX3_ticksUntilThere 14 = .ok (.aaload, 1) := by decide +kernel
theorem dX3_ticksUntilThere_15 : decode cX3_ticksUntilThere 15 = .ok (.getfield 169, 3) := by decide +kernel
theorem dX3_ticksUntilThere_18 : decode cX3_ticksUntilThere 18 = .ok (.iload_n 2, 1) := by decide +kernel
theorem dX3_ticksUntilThere_19 : decode cX3_ticksUntilThere 19 = .ok (.if_icmp .lt 5, 3) := by decide +kernel
theorem dX3_ticksUntilThere_22 : decode cX3_ticksUntilThere 22 = .ok (.iload_n 3, 1) := by decide +kernel
theorem dX3_ticksUntilThere_23 : decode cX3_ticksUntilThere 23 = .ok (.ireturn, 1) := by decide +kernel
theorem dX3_ticksUntilThere_24 : decode cX3_ticksUntilThere 24 = .ok (.aload_n 0, 1) := by decide +kernel
theorem dX3_ticksUntilThere_25 : decode cX3_ticksUntilThere 25 = .ok (.iconst 1, 1) := by decide +kernel
theorem dX3_ticksUntilThere_26 : decode cX3_ticksUntilThere 26 = .ok (.iload_n 1, 1) := by decide +kernel
theorem dX3_ticksUntilThere_27 : decode cX3_ticksUntilThere 27 = .ok (.iload_n 1, 1) := by decide +kernel
theorem dX3_ticksUntilThere_28 : decode cX3_ticksUntilThere 28 = .ok (.iconst 1, 1) := by decide +kernel
theorem dX3_ticksUntilThere_29 : decode cX3_ticksUntilThere 29 = .ok (.iadd, 1) := by decide +kernel
theorem dX3_ticksUntilThere_30 : decode cX3_ticksUntilThere 30 = .ok (.invokevirtual 114, 3) := by decide +kernel
theorem dX3_ticksUntilThere_33 : decode cX3_ticksUntilThere 33 = .ok (.pop, 1) := by decide +kernel
theorem dX3_ticksUntilThere_34 : decode cX3_ticksUntilThere 34 = .ok (.iinc 3 1, 3) := by decide +kernel
theorem dX3_ticksUntilThere_37 : decode cX3_ticksUntilThere 37 = .ok (.goto (-35), 3) := by decide +kernel
theorem dX3_ticksUntilThere_40 : decode cX3_ticksUntilThere 40 = .ok (.iconst (-1), 1) := by decide +kernel
theorem dX3_ticksUntilThere_41 : decode cX3_ticksUntilThere 41 = .ok (.ireturn, 1) := by decide +kernel
theorem dX4_init_0 : decode cX4_init 0 = .ok (.aload_n 0, 1) := by decide +kernel
theorem dX4_init_1 : decode cX4_init 1 = .ok (.invokespecial 3, 3) := by decide +kernel
theorem dX4_init_4 : decode cX4_init 4 = .ok (.aload_n 0, 1) := by decide +kernel
theorem dX4_init_5 : decode cX4_init 5 = .ok (.bipush 120, 2) := by decide +kernel
theorem dX4_init_7 : decode cX4_init 7 = .ok (.newarray .char, 2) := by decide +kernel
theorem dX4_init_9 : decode cX4_init 9 = .ok (.putfield 9, 3) := by decide +kernel
theorem dX4_init_12 : decode cX4_init 12 = .ok (.aload_n 0, 1) := by decide +kernel
theorem dX4_init_13 : decode cX4_init 13 = .ok (.iconst 0, 1) := by decide +kernel
theorem dX4_init_14 : decode cX4_init 14 = .ok (.putfield 15, 3) := by decide +kernel
theorem dX4_init_17 : decode cX4_init 17 = .ok (.aload_n 0, 1) := by decide +kernel
theorem dX4_init_18 : decode cX4_init 18 = .ok (.iconst 0, 1) := by decide +kernel
theorem dX4_init_19 : decode cX4_init 19 = .ok (.putfield 19, 3) := by decide +kernel
theorem dX4_init_22 : decode cX4_init 22 = .ok (.aload_n 0, 1) := by decide +kernel
theorem dX4_init_23 : decode cX4_init 23 = .ok (.iconst (-1), 1) := by decide +kernel
theorem dX4_init_24 : decode cX4_init 24 = .ok (.putfield 22, 3) := by decide +kernel
theorem dX4_init_27 : decode cX4_init 27 = .ok (.aload_n 0, 1) := by decide +kernel
theorem dX4_init_28 : decode cX4_init 28 = .ok (.iconst 0, 1) := by decide +kernel
theorem dX4_init_29 : decode cX4_init 29 = .ok (.putfield 25, 3) := by decide +kernel
theorem dX4_init_32 : decode cX4_init 32 = .ok (.aload_n 0, 1) := by decide +kernel
theorem dX4_init_33 : decode cX4_init 33 = .ok (.iconst 0, 1) := by decide +kernel
theorem dX4_init_34 : decode cX4_init 34 = .ok (.putfield 28, 3) := by decide +kernel
theorem dX4_init_37 : decode cX4_init 37 = .ok (.aload_n 0, 1) := by decide +kernel
theorem dX4_init_38 : decode cX4_init 38 = .ok (.iconst 0, 1) := by decide +kernel
theorem dX4_init_39 : decode cX4_init 39 = .ok (.putfield 31, 3) := by decide +kernel
theorem dX4_init_42 : decode cX4_init 42 = .ok (.aload_n 0, 1) := by decide +kernel
theorem dX4_init_43 : decode cX4_init 43 = .ok (.iconst 0, 1) := by decide +kernel
theorem dX4_init_44 : decode cX4_init 44 = .ok (.putfield 34, 3) := by decide +kernel
theorem dX4_init_47 : decode cX4_init 47 = .ok (.return_, 1) := by decide +kernel
theorem dX4_addCharacter_0 : decode cX4_addCharacter 0 = .ok (.aload_n 0, 1) := by decide +kernel
theorem dX4_addCharacter_1 : decode cX4_addCharacter 1 = .ok (.getfield 15, 3) := by decide +kernel
theorem dX4_addCharacter_4 : decode cX4_addCharacter 4 = .ok (.ifCond .lt 35, 3) := by decide +kernel
theorem dX4_addCharacter_7 : decode cX4_addCharacter 7 = .ok (.aload_n 0, 1) := by decide +kernel
theorem dX4_addCharacter_8 : decode cX4_addCharacter 8 = .ok (.getfield 15, 3) := by decide +kernel
theorem dX4_addCharacter_11 : decode cX4_addCharacter 11 = .ok (.aload_n 0, 1) := by decide +kernel
theorem dX4_addCharacter_12 : decode cX4_addCharacter 12 = .ok (.getfield 9, 3) := by decide +kernel
theorem dX4_addCharacter_15 : decode cX4_addCharacter 15 = .ok (.arraylength, 1) := by decide +kernel
theorem dX4_addCharacter_16 : decode cX4_addCharacter 16 = .ok (.if_icmp .ge 23, 3) := by decide +kernel
theorem dX4_addCharacter_19 : decode cX4_addCharacter 19 = .ok (.aload_n 0, 1) := by decide +kernel
theorem dX4_addCharacter_20 : decode cX4_addCharacter 20 = .ok (.getfield 9, 3) := by decide +kernel
theorem dX4_addCharacter_23 : decode cX4_addCharacter 23 = .ok (.aload_n 0, 1) := by decide +kernel
theorem dX4_addCharacter_24 : decode cX4_addCharacter 24 = .ok (.getfield 15, 3) := by decide +kernel
theorem dX4_addCharacter_27 : decode cX4_addCharacter 27 = .ok (.iload_n 1, 1) := by decide +kernel
theorem dX4_addCharacter_28 : decode cX4_addCharacter 28 = .ok (.castore, 1) := by decide +kernel
theorem dX4_addCharacter_29 : decode cX4_addCharacter 29 = .ok (.aload_n 0, 1) := by decide +kernel
theorem dX4_addCharacter_30 : decode cX4_addCharacter 30 = .ok (.dup, 1) := by decide +kernel
theorem dX4_addCharacter_31 : decode cX4_addCharacter 31 = .ok (.getfield 15, 3) := by decide +kernel
theorem dX4_addCharacter_34 : decode cX4_addCharacter 34 = .ok (.iconst 1, 1) := by decide +kernel
theorem dX4_addCharacter_35 : decode cX4_addCharacter 35 = .ok (.iadd, 1) := by decide +kernel
theorem dX4_addCharacter_36 : decode cX4_addCharacter 36 = .ok (.putfield 15, 3) := by decide +kernel
theorem dX4_addCharacter_39 : decode cX4_addCharacter 39 = .ok (.return_, 1) := by decide +kernel
theorem dX4_firstError_0 : decode cX4_firstError 0 = .ok (.aload_n 0, 1) := by decide +kernel
theorem dX4_firstError_1 : decode cX4_firstError 1 = .ok (.invokevirtual 37, 3) := by decide +kernel
theorem dX4_firstError_4 : decode cX4_firstError 4 = .ok (.pop, 1) := by decide +kernel
theorem dX4_firstError_5 : decode cX4_firstError 5 = .ok (.iconst 1, 1) := by decide +kernel
theorem dX4_firstError_6 : decode cX4_firstError 6 = .ok (.istore_n 1, 1) := by decide +kernel
theorem dX4_firstError_7 : decode cX4_firstError 7 = .ok (.iconst 0, 1) := by decide +kernel
theorem dX4_firstError_8 : decode cX4_firstError 8 = .ok (.istore_n 2, 1) := by decide +kernel
theorem dX4_firstError_9 : decode cX4_firstError 9 = .ok (.iload_n 1, 1) := by decide +kernel
theorem dX4_firstError_10 : decode cX4_firstError 10 = .ok (.ifCond .eq 20, 3) := by decide +kernel
theorem dX4_firstError_13 : decode cX4_firstError 13 = .ok (.iload_n 2, 1) := by decide +kernel
theorem dX4_firstError_14 : decode cX4_firstError 14 = .ok (.bipush 120, 2) := by decide +kernel
theorem dX4_firstError_16 : decode cX4_firstError 16 = .ok (.if_icmp .ge 14, 3) := by decide +kernel
theorem dX4_firstError_19 : decode cX4_firstError 19 = .ok (.aload_n 0, 1) := by decide +kernel
theorem dX4_firstError_20 : decode cX4_firstError 20 = .ok (.invokevirtual 41, 3) := by decide +kernel
theorem dX4_firstError_23 : decode cX4_firstError 23 = .ok (.istore_n 1, 1) := by decide +kernel
theorem dX4_firstError_24 : decode cX4_firstError 24 = .ok (.iinc 2 1, 3) := by decide +kernel
theorem dX4_firstError_27 : decode cX4_firstError 27 = .ok (.goto (-18), 3) := by decide +kernel
theorem dX4_firstError_30 : decode cX4_firstError 30 = .ok (.aload_n 0, 1) := by decide +kernel
theorem dX4_firstError_31 : decode cX4_firstError 31 = .ok (.getfield 22, 3) := by decide +kernel
theorem dX4_firstError_34 : decode cX4_firstError 34 = .ok (.ireturn, 1) := by decide +kernel
theorem dX4_readHead_0 : decode cX4_readHead 0 = .ok (.aload_n 0, 1) := by decide +kernel
theorem dX4_readHead_1 : decode cX4_readHead 1 = .ok (.iconst 0, 1) := by decide +kernel
theorem dX4_readHead_2 : decode cX4_readHead 2 = .ok (.putfield 19, 3) := by decide +kernel
theorem dX4_readHead_5 : decode cX4_readHead 5 = .ok (.aload_n 0, 1) := by decide +kernel
theorem dX4_readHead_6 : decode cX4_readHead 6 = .ok (.iconst (-1), 1) := by decide +kernel
theorem dX4_readHead_7 : decode cX4_readHead 7 = .ok (.putfield 22, 3) := by decide +kernel
theorem dX4_readHead_10 : decode cX4_readHead 10 = .ok (.aload_n 0, 1) := by decide +kernel
theorem dX4_readHead_11 : decode cX4_readHead 11 = .ok (.invokevirtual 45, 3) := by decide +kernel
theorem dX4_readHead_14 : decode cX4_readHead 14 = .ok (.bipush 78, 2) := by decide +kernel
theorem dX4_readHead_16 : decode cX4_readHead 16 = .ok (.if_icmp .eq 8, 3) := by decide +kernel
theorem dX4_readHead_19 : decode cX4_readHead 19 = .ok (.aload_n 0, 1) := by decide +kernel
theorem dX4_readHead_20 : decode cX4_readHead 20 = .ok (.iconst 0, 1) := by decide +kernel
theorem dX4_readHead_21 : decode cX4_readHead 21 = .ok (.putfield 22, 3) := by decide +kernel
theorem dX4_readHead_24 : decode cX4_readHead 24 = .ok (.aload_n 0, 1) := by decide +kernel
theorem dX4_readHead_25 : decode cX4_readHead 25 = .ok (.iconst 1, 1) := by decide +kernel
theorem dX4_readHead_26 : decode cX4_readHead 26 = .ok (.iconst 1, 1) := by decide +kernel
theorem dX4_readHead_27 : decode cX4_readHead 27 = .ok (.iconst 4, 1) := by decide +kernel
theorem dX4_readHead_28 : decode cX4_readHead 28 = .ok (.invokevirtual 49, 3) := by decide +kernel
theorem dX4_readHead_31 : decode cX4_readHead 31 = .ok (.ireturn, 1) := by decide +kernel
theorem dX4_readCommand_0 : decode cX4_readCommand 0 = .ok (.aload_n 0, 1) := by decide +kernel
theorem dX4_readCommand_1 : decode cX4_readCommand 1 = .ok (.getfield 22, 3) := by decide +kernel
theorem dX4_readCommand_4 : decode cX4_readCommand 4 = .ok (.iconst (-1), 1) := by decide +kernel
theorem dX4_readCommand_5 : decode cX4_readCommand 5 = .ok (.if_icmp .ne 14, 3) := by decide +kernel
theorem dX4_readCommand_8 : decode cX4_readCommand 8 = .ok (.aload_n 0, 1) := by decide +kernel
theorem dX4_readCommand_9 : decode cX4_readCommand 9 = .ok (.getfield 19, 3) := by decide +kernel
theorem dX4_readCommand_12 : decode cX4_readCommand 12 = .ok (.aload_n 0, 1) := by decide +kernel
theorem dX4_readCommand_13 : decode cX4_readCommand 13 = .ok (.getfield 15, 3) := by decide +kernel
theorem dX4_readCommand_16 : decode cX4_readCommand 16 = .ok (.if_icmp .lt 5, 3) := by decide +kernel
theorem dX4_readCommand_19 : decode cX4_readCommand 19 = .ok (.iconst 0, 1) := by decide +kernel
theorem dX4_readCommand_20 : decode cX4_readCommand 20 = .ok (.ireturn, 1) := by decide +kernel
theorem dX4_readCommand_21 : decode cX4_readCommand 21 = .ok (.aload_n 0, 1) := by decide +kernel
theorem dX4_readCommand_22 : decode cX4_readCommand 22 = .ok (.invokevirtual 45, 3) := by decide +kernel
theorem dX4_readCommand_25 : decode cX4_readCommand 25 = .ok (.lookupswitch 136 #[(102, 108), (104, 88), (112, 68), (116, 122), (119, 51)], 51) := by decide +kernel
theorem dX4_readCommand_76 : decode cX4_readCommand 76 = .ok (.aload_n 0, 1) := by decide +kernel
theorem dX4_readCommand_77 : decode cX4_readCommand 77 = .ok (.iconst 1, 1) := by decide +kernel
theorem dX4_readCommand_78 : decode cX4_readCommand 78 = .ok (.aload_n 0, 1) := by decide +kernel
theorem dX4_readCommand_79 : decode cX4_readCommand 79 = .ok (.invokevirtual 53, 3) := by decide +kernel
theorem dX4_readCommand_82 : decode cX4_readCommand 82 = .ok (.aload_n 0, 1) := by decide +kernel
theorem dX4_readCommand_83 : decode cX4_readCommand 83 = .ok (.invokevirtual 56, 3) := by decide +kernel
theorem dX4_readCommand_86 : decode cX4_readCommand 86 = .ok (.iconst 0, 1) := by decide +kernel
theorem dX4_readCommand_87 : decode cX4_readCommand 87 = .ok (.invokevirtual 59, 3) := by decide +kernel
theorem dX4_readCommand_90 : decode cX4_readCommand 90 = .ok (.goto 81, 3) := by decide +kernel
theorem dX4_readCommand_93 : decode cX4_readCommand 93 = .ok (.aload_n 0, 1) := by decide +kernel
theorem dX4_readCommand_94 : decode cX4_readCommand 94 = .ok (.iconst 2, 1) := by decide +kernel
theorem dX4_readCommand_95 : decode cX4_readCommand 95 = .ok (.aload_n 0, 1) := by decide +kernel
theorem dX4_readCommand_96 : decode cX4_readCommand 96 = .ok (.invokevirtual 63, 3) := by decide +kernel
theorem dX4_readCommand_99 : decode cX4_readCommand 99 = .ok (.aload_n 0, 1) := by decide +kernel
theorem dX4_readCommand_100 : decode cX4_readCommand 100 = .ok (.invokevirtual 53, 3) := by decide +kernel
theorem dX4_readCommand_103 : decode cX4_readCommand 103 = .ok (.aload_n 0, 1) := by decide +kernel
theorem dX4_readCommand_104 : decode cX4_readCommand 104 = .ok (.invokevirtual 56, 3) := by decide +kernel
theorem dX4_readCommand_107 : decode cX4_readCommand 107 = .ok (.invokevirtual 59, 3) := by decide +kernel
theorem dX4_readCommand_110 : decode cX4_readCommand 110 = .ok (.goto 61, 3) := by decide +kernel
theorem dX4_readCommand_113 : decode cX4_readCommand 113 = .ok (.aload_n 0, 1) := by decide +kernel
theorem dX4_readCommand_114 : decode cX4_readCommand 114 = .ok (.iconst 3, 1) := by decide +kernel
theorem dX4_readCommand_115 : decode cX4_readCommand 115 = .ok (.aload_n 0, 1) := by decide +kernel
theorem dX4_readCommand_116 : decode cX4_readCommand 116 = .ok (.invokevirtual 53, 3) := by decide +kernel
theorem dX4_readCommand_119 : decode cX4_readCommand 119 = .ok (.aload_n 0, 1) := by decide +kernel
theorem dX4_readCommand_120 : decode cX4_readCommand 120 = .ok (.iconst 1, 1) := by decide +kernel
theorem dX4_readCommand_121 : decode cX4_readCommand 121 = .ok (.iconst 0, 1) := by decide +kernel
theorem dX4_readCommand_122 : decode cX4_readCommand 122 = .ok (.iconst 1, 1) := by decide +kernel
theorem dX4_readCommand_123 : decode cX4_readCommand 123 = .ok (.invokevirtual 49, 3) := by decide +kernel
theorem dX4_readCommand_126 : decode cX4_readCommand 126 = .ok (.iconst 0, 1) := by decide +kernel
theorem dX4_readCommand_127 : decode cX4_readCommand 127 = .ok (.invokevirtual 59, 3) := by decide +kernel
theorem dX4_readCommand_130 : decode cX4_readCommand 130 = .ok (.goto 41, 3) := by decide +kernel
theorem dX4_readCommand_133 : decode cX4_readCommand 133 = .ok (.aload_n 0, 1) := by decide +kernel
theorem dX4_readCommand_134 : decode cX4_readCommand 134 = .ok (.iconst 4, 1) := by decide +kernel
theorem dX4_readCommand_135 : decode cX4_readCommand 135 = .ok (.aload_n 0, 1) := by decide +kernel
theorem dX4_readCommand_136 : decode cX4_readCommand 136 = .ok (.invokevirtual 53, 3) := by decide +kernel
theorem dX4_readCommand_139 : decode cX4_readCommand 139 = .ok (.iconst 0, 1) := by decide +kernel
theorem dX4_readCommand_140 : decode cX4_readCommand 140 = .ok (.iconst 0, 1) := by decide +kernel
theorem dX4_readCommand_141 : decode cX4_readCommand 141 = .ok (.invokevirtual 59, 3) := by decide +kernel
theorem dX4_readCommand_144 : decode cX4_readCommand 144 = .ok (.goto 27, 3) := by decide +kernel
theorem dX4_readCommand_147 : decode cX4_readCommand 147 = .ok (.aload_n 0, 1) := by decide +kernel
theorem dX4_readCommand_148 : decode cX4_readCommand 148 = .ok (.iconst 5, 1) := by decide +kernel
theorem dX4_readCommand_149 : decode cX4_readCommand 149 = .ok (.aload_n 0, 1) := by decide +kernel
theorem dX4_readCommand_150 : decode cX4_readCommand 150 = .ok (.invokevirtual 63, 3) := by decide +kernel
theorem dX4_readCommand_153 : decode cX4_readCommand 153 = .ok (.iconst 0, 1) := by decide +kernel
theorem dX4_readCommand_154 : decode cX4_readCommand 154 = .ok (.iconst 0, 1) := by decide +kernel
theorem dX4_readCommand_155 : decode cX4_readCommand 155 = .ok (.invokevirtual 59, 3) := by decide +kernel
theorem dX4_readCommand_158 : decode cX4_readCommand 158 = .ok (.goto 13, 3) := by decide +kernel
theorem dX4_readCommand_161 : decode cX4_readCommand 161 = .ok (.aload_n 0, 1) := by decide +kernel
theorem dX4_readCommand_162 : decode cX4_readCommand 162 = .ok (.aload_n 0, 1) := by decide +kernel
theorem dX4_readCommand_163 : decode cX4_readCommand 163 = .ok (.getfield 19, 3) := by decide +kernel
theorem dX4_readCommand_166 : decode cX4_readCommand 166 = .ok (.iconst 1, 1) := by decide +kernel
theorem dX4_readCommand_167 : decode cX4_readCommand 167 = .ok (.isub, 1) := by decide +kernel
theorem dX4_readCommand_168 : decode cX4_readCommand 168 = .ok (.putfield 22, 3) := by decide +kernel
theorem dX4_readCommand_171 : decode cX4_readCommand 171 = .ok (.aload_n 0, 1) := by decide +kernel
theorem dX4_readCommand_172 : decode cX4_readCommand 172 = .ok (.getfield 22, 3) := by decide +kernel
theorem dX4_readCommand_175 : decode cX4_readCommand 175 = .ok (.iconst (-1), 1) := by decide +kernel
theorem dX4_readCommand_176 : decode cX4_readCommand 176 = .ok (.if_icmp .ne 7, 3) := by decide +kernel
theorem dX4_readCommand_179 : decode cX4_readCommand 179 = .ok (.iconst 1, 1) := by decide +kernel
theorem dX4_readCommand_180 : decode cX4_readCommand 180 = .ok (.goto 4, 3) := by decide +kernel
theorem dX4_readCommand_183 : decode cX4_readCommand 183 = .ok (.iconst 0, 1) := by decide +kernel
theorem dX4_readCommand_184 : decode cX4_readCommand 184 = .ok (.ireturn, 1) := by decide +kernel
theorem dX4_takeCommand_0 : decode cX4_takeCommand 0 = .ok (.aload_n 0, 1) := by decide +kernel
theorem dX4_takeCommand_1 : decode cX4_takeCommand 1 = .ok (.iload_n 1, 1) := by decide +kernel
theorem dX4_takeCommand_2 : decode cX4_takeCommand 2 = .ok (.putfield 25, 3) := by decide +kernel
theorem dX4_takeCommand_5 : decode cX4_takeCommand 5 = .ok (.aload_n 0, 1) := by decide +kernel
theorem dX4_takeCommand_6 : decode cX4_takeCommand 6 = .ok (.iload_n 2, 1) := by decide +kernel
theorem dX4_takeCommand_7 : decode cX4_takeCommand 7 = .ok (.putfield 28, 3) := by decide +kernel
theorem dX4_takeCommand_10 : decode cX4_takeCommand 10 = .ok (.aload_n 0, 1) := by decide +kernel
theorem dX4_takeCommand_11 : decode cX4_takeCommand 11 = .ok (.iload_n 3, 1) := by decide +kernel
theorem dX4_takeCommand_12 : decode cX4_takeCommand 12 = .ok (.putfield 31, 3) := by decide +kernel
theorem dX4_takeCommand_15 : decode cX4_takeCommand 15 = .ok (.aload_n 0, 1) := by decide +kernel
theorem dX4_takeCommand_16 : decode cX4_takeCommand 16 = .ok (.iload 4, 2) := by decide +kernel
theorem dX4_takeCommand_18 : decode cX4_takeCommand 18 = .ok (.putfield 34, 3) := by decide +kernel
theorem dX4_takeCommand_21 : decode cX4_takeCommand 21 = .ok (.return_, 1) := by decide +kernel
theorem dX4_readLetter_0 : decode cX4_readLetter 0 = .ok (.aload_n 0, 1) := by decide +kernel
theorem dX4_readLetter_1 : decode cX4_readLetter 1 = .ok (.getfield 19, 3) := by decide +kernel
theorem dX4_readLetter_4 : decode cX4_readLetter 4 = .ok (.ifCond .lt 38, 3) := by decide +kernel
theorem dX4_readLetter_7 : decode cX4_readLetter 7 = .ok (.aload_n 0, 1) := by decide +kernel
theorem dX4_readLetter_8 : decode cX4_readLetter 8 = .ok (.getfield 19, 3) := by decide +kernel
theorem dX4_readLetter_11 : decode cX4_readLetter 11 = .ok (.aload_n 0, 1) := by decide +kernel
theorem dX4_readLetter_12 : decode cX4_readLetter 12 = .ok (.getfield 15, 3) := by decide +kernel
theorem dX4_readLetter_15 : decode cX4_readLetter 15 = .ok (.if_icmp .ge 27, 3) := by decide +kernel
theorem dX4_readLetter_18 : decode cX4_readLetter 18 = .ok (.aload_n 0, 1) := by decide +kernel
theorem dX4_readLetter_19 : decode cX4_readLetter 19 = .ok (.getfield 19, 3) := by decide +kernel
theorem dX4_readLetter_22 : decode cX4_readLetter 22 = .ok (.aload_n 0, 1) := by decide +kernel
theorem dX4_readLetter_23 : decode cX4_readLetter 23 = .ok (.getfield 9, 3) := by decide +kernel
theorem dX4_readLetter_26 : decode cX4_readLetter 26 = .ok (.arraylength, 1) := by decide +kernel
theorem dX4_readLetter_27 : decode cX4_readLetter 27 = .ok (.if_icmp .ge 15, 3) := by decide +kernel
theorem dX4_readLetter_30 : decode cX4_readLetter 30 = .ok (.aload_n 0, 1) := by decide +kernel
theorem dX4_readLetter_31 : decode cX4_readLetter 31 = .ok (.getfield 9, 3) := by decide +kernel
theorem dX4_readLetter_34 : decode cX4_readLetter 34 = .ok (.aload_n 0, 1) := by decide +kernel
theorem dX4_readLetter_35 : decode cX4_readLetter 35 = .ok (.getfield 19, 3) := by decide +kernel
theorem dX4_readLetter_38 : decode cX4_readLetter 38 = .ok (.caload, 1) := by decide +kernel
theorem dX4_readLetter_39 : decode cX4_readLetter 39 = .ok (.goto 5, 3) := by decide +kernel
theorem dX4_readLetter_42 : decode cX4_readLetter 42 = .ok (.bipush 32, 2) := by decide +kernel
theorem dX4_readLetter_44 : decode cX4_readLetter 44 = .ok (.istore_n 1, 1) := by decide +kernel
theorem dX4_readLetter_45 : decode cX4_readLetter 45 = .ok (.aload_n 0, 1) := by decide +kernel
theorem dX4_readLetter_46 : decode cX4_readLetter 46 = .ok (.dup, 1) := by decide +kernel
theorem dX4_readLetter_47 : decode cX4_readLetter 47 = .ok (.getfield 19, 3) := by decide +kernel
theorem dX4_readLetter_50 : decode cX4_readLetter 50 = .ok (.iconst 1, 1) := by decide +kernel
theorem dX4_readLetter_51 : decode cX4_readLetter 51 = .ok (.iadd, 1) := by decide +kernel
theorem dX4_readLetter_52 : decode cX4_readLetter 52 = .ok (.putfield 19, 3) := by decide +kernel
theorem dX4_readLetter_55 : decode cX4_readLetter 55 = .ok (.iload_n 1, 1) := by decide +kernel
theorem dX4_readLetter_56 : decode cX4_readLetter 56 = .ok (.ireturn, 1) := by decide +kernel
theorem dX4_readWriter_0 : decode cX4_readWriter 0 = .ok (.aload_n 0, 1) := by decide +kernel
theorem dX4_readWriter_1 : decode cX4_readWriter 1 = .ok (.iconst 1, 1) := by decide +kernel
theorem dX4_readWriter_2 : decode cX4_readWriter 2 = .ok (.iconst 0, 1) := by decide +kernel
theorem dX4_readWriter_3 : decode cX4_readWriter 3 = .ok (.iconst 3, 1) := by decide +kernel
theorem dX4_readWriter_4 : decode cX4_readWriter 4 = .ok (.invokevirtual 49, 3) := by decide +kernel
theorem dX4_readWriter_7 : decode cX4_readWriter 7 = .ok (.ireturn, 1) := by decide +kernel
theorem dX4_readSigns_0 : decode cX4_readSigns 0 = .ok (.aload_n 0, 1) := by decide +kernel
theorem dX4_readSigns_1 : decode cX4_readSigns 1 = .ok (.iconst 3, 1) := by decide +kernel
theorem dX4_readSigns_2 : decode cX4_readSigns 2 = .ok (.iconst 1, 1) := by decide +kernel
theorem dX4_readSigns_3 : decode cX4_readSigns 3 = .ok (.sipush 500, 3) := by decide +kernel
theorem dX4_readSigns_6 : decode cX4_readSigns 6 = .ok (.invokevirtual 49, 3) := by decide +kernel
theorem dX4_readSigns_9 : decode cX4_readSigns 9 = .ok (.ireturn, 1) := by decide +kernel
theorem dX4_readTicks_0 : decode cX4_readTicks 0 = .ok (.aload_n 0, 1) := by decide +kernel
theorem dX4_readTicks_1 : decode cX4_readTicks 1 = .ok (.iconst 2, 1) := by decide +kernel
theorem dX4_readTicks_2 : decode cX4_readTicks 2 = .ok (.iconst 1, 1) := by decide +kernel
theorem dX4_readTicks_3 : decode cX4_readTicks 3 = .ok (.bipush 99, 2) := by decide +kernel
theorem dX4_readTicks_5 : decode cX4_readTicks 5 = .ok (.invokevirtual 49, 3) := by decide +kernel
theorem dX4_readTicks_8 : decode cX4_readTicks 8 = .ok (.ireturn, 1) := by decide +kernel
theorem dX4_readNumber_0 : decode cX4_readNumber 0 = .ok (.iconst 0, 1) := by decide +kernel
theorem dX4_readNumber_1 : decode cX4_readNumber 1 = .ok (.istore 4, 2) := by decide +kernel
theorem dX4_readNumber_3 : decode cX4_readNumber 3 = .ok (.iconst 1, 1) := by decide +kernel
theorem dX4_readNumber_4 : decode cX4_readNumber 4 = .ok (.istore 5, 2) := by decide +kernel
theorem dX4_readNumber_6 : decode cX4_readNumber 6 = .ok (.iconst 0, 1) := by decide +kernel
theorem dX4_readNumber_7 : decode cX4_readNumber 7 = .ok (.istore 6, 2) := by decide +kernel
theorem dX4_readNumber_9 : decode cX4_readNumber 9 = .ok (.iload 6, 2) := by decide +kernel
theorem dX4_readNumber_11 : decode cX4_readNumber 11 = .ok (.iload_n 1, 1) := by decide +kernel
theorem dX4_readNumber_12 : decode cX4_readNumber 12 = .ok (.if_icmp .ge 16, 3) := by decide +kernel
theorem dX4_readNumber_15 : decode cX4_readNumber 15 = .ok (.iload 5, 2) := by decide +kernel
theorem dX4_readNumber_17 : decode cX4_readNumber 17 = .ok (.bipush 10, 2) := by decide +kernel
theorem dX4_readNumber_19 : decode cX4_readNumber 19 = .ok (.imul, 1) := by decide +kernel
theorem dX4_readNumber_20 : decode cX4_readNumber 20 = .ok (.istore 5, 2) := by decide +kernel
theorem dX4_readNumber_22 : decode cX4_readNumber 22 = .ok (.iinc 6 1, 3) := by decide +kernel
theorem dX4_readNumber_25 : decode cX4_readNumber 25 = .ok (.goto (-16), 3) := by decide +kernel
theorem dX4_readNumber_28 : decode cX4_readNumber 28 = .ok (.iconst 0, 1) := by decide +kernel
theorem dX4_readNumber_29 : decode cX4_readNumber 29 = .ok (.istore 6, 2) := by decide +kernel
theorem dX4_readNumber_31 : decode cX4_readNumber 31 = .ok (.iload 6, 2) := by decide +kernel
theorem dX4_readNumber_33 : decode cX4_readNumber 33 = .ok (.iload_n 1, 1) := by decide +kernel
theorem dX4_readNumber_34 : decode cX4_readNumber 34 = .ok (.if_icmp .ge 102, 3) := by decide +kernel
theorem dX4_readNumber_37 : decode cX4_readNumber 37 = .ok (.aload_n 0, 1) := by decide +kernel
theorem dX4_readNumber_38 : decode cX4_readNumber 38 = .ok (.getfield 22, 3) := by decide +kernel
theorem dX4_readNumber_41 : decode cX4_readNumber 41 = .ok (.iconst (-1), 1) := by decide +kernel
theorem dX4_readNumber_42 : decode cX4_readNumber 42 = .ok (.if_icmp .ne 94, 3) := by decide +kernel
theorem dX4_readNumber_45 : decode cX4_readNumber 45 = .ok (.aload_n 0, 1) := by decide +kernel
theorem dX4_readNumber_46 : decode cX4_readNumber 46 = .ok (.invokevirtual 45, 3) := by decide +kernel
theorem dX4_readNumber_49 : decode cX4_readNumber 49 = .ok (.istore 7, 2) := by decide +kernel
theorem dX4_readNumber_51 : decode cX4_readNumber 51 = .ok (.iload 5, 2) := by decide +kernel
theorem dX4_readNumber_53 : decode cX4_readNumber 53 = .ok (.bipush 10, 2) := by decide +kernel
theorem dX4_readNumber_55 : decode cX4_readNumber 55 = .ok (.idiv, 1) := by decide +kernel
theorem dX4_readNumber_56 : decode cX4_readNumber 56 = .ok (.istore 5, 2) := by decide +kernel
theorem dX4_readNumber_58 : decode cX4_readNumber 58 = .ok (.iload 4, 2) := by decide +kernel
theorem dX4_readNumber_60 : decode cX4_readNumber 60 = .ok (.bipush 10, 2) := by decide +kernel
theorem dX4_readNumber_62 : decode cX4_readNumber 62 = .ok (.imul, 1) := by decide +kernel
theorem dX4_readNumber_63 : decode cX4_readNumber 63 = .ok (.iload 7, 2) := by decide +kernel
theorem dX4_readNumber_65 : decode cX4_readNumber 65 = .ok (.bipush 48, 2) := by decide +kernel
theorem dX4_readNumber_67 : decode cX4_readNumber 67 = .ok (.isub, 1) := by decide +kernel
theorem dX4_readNumber_68 : decode cX4_readNumber 68 = .ok (.iadd, 1) := by decide +kernel
theorem dX4_readNumber_69 : decode cX4_readNumber 69 = .ok (.istore 4, 2) := by decide +kernel
theorem dX4_readNumber_71 : decode cX4_readNumber 71 = .ok (.iload 4, 2) := by decide +kernel
theorem dX4_readNumber_73 : decode cX4_readNumber 73 = .ok (.iload 5, 2) := by decide +kernel
theorem dX4_readNumber_75 : decode cX4_readNumber 75 = .ok (.imul, 1) := by decide +kernel
theorem dX4_readNumber_76 : decode cX4_readNumber 76 = .ok (.iload_n 3, 1) := by decide +kernel
theorem dX4_readNumber_77 : decode cX4_readNumber 77 = .ok (.if_icmp .gt 21, 3) := by decide +kernel
theorem dX4_readNumber_80 : decode cX4_readNumber 80 = .ok (.iload 4, 2) := by decide +kernel
theorem dX4_readNumber_82 : decode cX4_readNumber 82 = .ok (.iload 5, 2) := by decide +kernel
theorem dX4_readNumber_84 : decode cX4_readNumber 84 = .ok (.imul, 1) := by decide +kernel
theorem dX4_readNumber_85 : decode cX4_readNumber 85 = .ok (.iload 5, 2) := by decide +kernel
theorem dX4_readNumber_87 : decode cX4_readNumber 87 = .ok (.iadd, 1) := by decide +kernel
theorem dX4_readNumber_88 : decode cX4_readNumber 88 = .ok (.iconst 1, 1) := by decide +kernel
theorem dX4_readNumber_89 : decode cX4_readNumber 89 = .ok (.isub, 1) := by decide +kernel
theorem dX4_readNumber_90 : decode cX4_readNumber 90 = .ok (.iload_n 2, 1) := by decide +kernel
theorem dX4_readNumber_91 : decode cX4_readNumber 91 = .ok (.if_icmp .lt 7, 3) := by decide +kernel
theorem dX4_readNumber_94 : decode cX4_readNumber 94 = .ok (.iconst 1, 1) := by decide +kernel
theorem dX4_readNumber_95 : decode cX4_readNumber 95 = .ok (.goto 4, 3) := by decide +kernel
theorem dX4_readNumber_98 : decode cX4_readNumber 98 = .ok (.iconst 0, 1) := by decide +kernel
theorem dX4_readNumber_99 : decode cX4_readNumber 99 = .ok (.istore 8, 2) := by decide +kernel
theorem dX4_readNumber_101 : decode cX4_readNumber 101 = .ok (.iload 7, 2) := by decide +kernel
theorem dX4_readNumber_103 : decode cX4_readNumber 103 = .ok (.bipush 48, 2) := by decide +kernel
theorem dX4_readNumber_105 : decode cX4_readNumber 105 = .ok (.if_icmp .lt 15, 3) := by decide +kernel
theorem dX4_readNumber_108 : decode cX4_readNumber 108 = .ok (.iload 7, 2) := by decide +kernel
theorem dX4_readNumber_110 : decode cX4_readNumber 110 = .ok (.bipush 57, 2) := by decide +kernel
theorem dX4_readNumber_112 : decode cX4_readNumber 112 = .ok (.if_icmp .gt 8, 3) := by decide +kernel
theorem dX4_readNumber_115 : decode cX4_readNumber 115 = .ok (.iload 8, 2) := by decide +kernel
theorem dX4_readNumber_117 : decode cX4_readNumber 117 = .ok (.ifCond .ne 13, 3) := by decide +kernel
theorem dX4_readNumber_120 : decode cX4_readNumber 120 = .ok (.aload_n 0, 1) := by decide +kernel
theorem dX4_readNumber_121 : decode cX4_readNumber 121 = .ok (.aload_n 0, 1) := by decide +kernel
theorem dX4_readNumber_122 : decode cX4_readNumber 122 = .ok (.getfield 19, 3) := by decide +kernel
theorem dX4_readNumber_125 : decode cX4_readNumber 125 = .ok (.iconst 1, 1) := by decide +kernel
theorem dX4_readNumber_126 : decode cX4_readNumber 126 = .ok (.isub, 1) := by decide +kernel
theorem dX4_readNumber_127 : decode cX4_readNumber 127 = .ok (.putfield 22, 3) := by decide +kernel
theorem dX4_readNumber_130 : decode cX4_readNumber 130 = .ok (.iinc 6 1, 3) := by decide +kernel
theorem dX4_readNumber_133 : decode cX4_readNumber 133 = .ok (.goto (-102), 3) := by decide +kernel
theorem dX4_readNumber_136 : decode cX4_readNumber 136 = .ok (.iload 4, 2) := by decide +kernel
theorem dX4_readNumber_138 : decode cX4_readNumber 138 = .ok (.ireturn, 1) := by decide +kernel
