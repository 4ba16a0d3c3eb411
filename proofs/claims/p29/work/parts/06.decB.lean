theorem dX5_init_0 : decode cX5_init 0 = .ok (.aload_n 0, 1) := by decide +kernel
theorem dX5_init_1 : decode cX5_init 1 = .ok (.invokespecial 1, 3) := by decide +kernel
theorem dX5_init_4 : decode cX5_init 4 = .ok (.aload_n 0, 1) := by decide +kernel
theorem dX5_init_5 : decode cX5_init 5 = .ok (.new 7, 3) := by decide +kernel
theorem dX5_init_8 : decode cX5_init 8 = .ok (.dup, 1) := by decide +kernel
theorem dX5_init_9 : decode cX5_init 9 = .ok (.invokespecial 9, 3) := by decide +kernel
theorem dX5_init_12 : decode cX5_init 12 = .ok (.putfield 10, 3) := by decide +kernel
theorem dX5_init_15 : decode cX5_init 15 = .ok (.aload_n 0, 1) := by decide +kernel
theorem dX5_init_16 : decode cX5_init 16 = .ok (.new 16, 3) := by decide +kernel
theorem dX5_init_19 : decode cX5_init 19 = .ok (.dup, 1) := by decide +kernel
theorem dX5_init_20 : decode cX5_init 20 = .ok (.invokespecial 18, 3) := by decide +kernel
theorem dX5_init_23 : decode cX5_init 23 = .ok (.putfield 19, 3) := by decide +kernel
theorem dX5_init_26 : decode cX5_init 26 = .ok (.aload_n 0, 1) := by decide +kernel
theorem dX5_init_27 : decode cX5_init 27 = .ok (.new 23, 3) := by decide +kernel
theorem dX5_init_30 : decode cX5_init 30 = .ok (.dup, 1) := by decide +kernel
theorem dX5_init_31 : decode cX5_init 31 = .ok (.invokespecial 25, 3) := by decide +kernel
theorem dX5_init_34 : decode cX5_init 34 = .ok (.putfield 26, 3) := by decide +kernel
theorem dX5_init_37 : decode cX5_init 37 = .ok (.aload_n 0, 1) := by decide +kernel
theorem dX5_init_38 : decode cX5_init 38 = .ok (.iconst 2, 1) := by decide +kernel
theorem dX5_init_39 : decode cX5_init 39 = .ok (.anewarray 16, 3) := by decide +kernel
theorem dX5_init_42 : decode cX5_init 42 = .ok (.putfield 30, 3) := by decide +kernel
theorem dX5_init_45 : decode cX5_init 45 = .ok (.aload_n 0, 1) := by decide +kernel
theorem dX5_init_46 : decode cX5_init 46 = .ok (.iconst 2, 1) := by decide +kernel
theorem dX5_init_47 : decode cX5_init 47 = .ok (.newarray .boolean, 2) := by decide +kernel
theorem dX5_init_49 : decode cX5_init 49 = .ok (.putfield 34, 3) := by decide +kernel
theorem dX5_init_52 : decode cX5_init 52 = .ok (.aload_n 0, 1) := by decide +kernel
theorem dX5_init_53 : decode cX5_init 53 = .ok (.new 16, 3) := by decide +kernel
theorem dX5_init_56 : decode cX5_init 56 = .ok (.dup, 1) := by decide +kernel
theorem dX5_init_57 : decode cX5_init 57 = .ok (.invokespecial 18, 3) := by decide +kernel
theorem dX5_init_60 : decode cX5_init 60 = .ok (.putfield 38, 3) := by decide +kernel
theorem dX5_init_63 : decode cX5_init 63 = .ok (.aload_n 0, 1) := by decide +kernel
theorem dX5_init_64 : decode cX5_init 64 = .ok (.new 16, 3) := by decide +kernel
theorem dX5_init_67 : decode cX5_init 67 = .ok (.dup, 1) := by decide +kernel
theorem dX5_init_68 : decode cX5_init 68 = .ok (.invokespecial 18, 3) := by decide +kernel
theorem dX5_init_71 : decode cX5_init 71 = .ok (.putfield 41, 3) := by decide +kernel
theorem dX5_init_74 : decode cX5_init 74 = .ok (.iconst 0, 1) := by decide +kernel
theorem dX5_init_75 : decode cX5_init 75 = .ok (.istore_n 1, 1) := by decide +kernel
theorem dX5_init_76 : decode cX5_init 76 = .ok (.iload_n 1, 1) := by decide +kernel
theorem dX5_init_77 : decode cX5_init 77 = .ok (.iconst 2, 1) := by decide +kernel
theorem dX5_init_78 : decode cX5_init 78 = .ok (.if_icmp .ge 22, 3) := by decide +kernel
theorem dX5_init_81 : decode cX5_init 81 = .ok (.aload_n 0, 1) := by decide +kernel
theorem dX5_init_82 : decode cX5_init 82 = .ok (.getfield 30, 3) := by decide +kernel
theorem dX5_init_85 : decode cX5_init 85 = .ok (.iload_n 1, 1) := by decide +kernel
theorem dX5_init_86 : decode cX5_init 86 = .ok (.new 16, 3) := by decide +kernel
theorem dX5_init_89 : decode cX5_init 89 = .ok (.dup, 1) := by decide +kernel
theorem dX5_init_90 : decode cX5_init 90 = .ok (.invokespecial 18, 3) := by decide +kernel
theorem dX5_init_93 : decode cX5_init 93 = .ok (.aastore, 1) := by decide +kernel
theorem dX5_init_94 : decode cX5_init 94 = .ok (.iinc 1 1, 3) := by decide +kernel
theorem dX5_init_97 : decode cX5_init 97 = .ok (.goto (-21), 3) := by decide +kernel
theorem dX5_init_100 : decode cX5_init 100 = .ok (.return_, 1) := by decide +kernel
theorem dX5_append_0 : decode cX5_append 0 = .ok (.iload_n 1, 1) := by decide +kernel
theorem dX5_append_1 : decode cX5_append 1 = .ok (.iconst 0, 1) := by decide +kernel
theorem dX5_append_2 : decode cX5_append 2 = .ok (.sipush 255, 3) := by decide +kernel
theorem dX5_append_5 : decode cX5_append 5 = .ok (.invokestatic 44, 3) := by decide +kernel
theorem dX5_append_8 : decode cX5_append 8 = .ok (.iconst 2, 1) := by decide +kernel
theorem dX5_append_9 : decode cX5_append 9 = .ok (.invokestatic 48, 3) := by decide +kernel
theorem dX5_append_12 : decode cX5_append 12 = .ok (.aload_n 0, 1) := by decide +kernel
theorem dX5_append_13 : decode cX5_append 13 = .ok (.getfield 10, 3) := by decide +kernel
theorem dX5_append_16 : decode cX5_append 16 = .ok (.getfield 52, 3) := by decide +kernel
theorem dX5_append_19 : decode cX5_append 19 = .ok (.bipush 120, 2) := by decide +kernel
theorem dX5_append_21 : decode cX5_append 21 = .ok (.if_icmp .ge 7, 3) := by decide +kernel
theorem dX5_append_24 : decode cX5_append 24 = .ok (.iconst 1, 1) := by decide +kernel
theorem dX5_append_25 : decode cX5_append 25 = .ok (.goto 4, 3) := by decide +kernel
theorem dX5_append_28 : decode cX5_append 28 = .ok (.iconst 0, 1) := by decide +kernel
theorem dX5_append_29 : decode cX5_append 29 = .ok (.iconst 3, 1) := by decide +kernel
theorem dX5_append_30 : decode cX5_append 30 = .ok (.invokestatic 48, 3) := by decide +kernel
theorem dX5_append_33 : decode cX5_append 33 = .ok (.aload_n 0, 1) := by decide +kernel
theorem dX5_append_34 : decode cX5_append 34 = .ok (.getfield 10, 3) := by decide +kernel
theorem dX5_append_37 : decode cX5_append 37 = .ok (.iload_n 1, 1) := by decide +kernel
theorem dX5_append_38 : decode cX5_append 38 = .ok (.i2c, 1) := by decide +kernel
theorem dX5_append_39 : decode cX5_append 39 = .ok (.invokevirtual 56, 3) := by decide +kernel
theorem dX5_append_42 : decode cX5_append 42 = .ok (.aload_n 0, 1) := by decide +kernel
theorem dX5_append_43 : decode cX5_append 43 = .ok (.getfield 10, 3) := by decide +kernel
theorem dX5_append_46 : decode cX5_append 46 = .ok (.getfield 52, 3) := by decide +kernel
theorem dX5_append_49 : decode cX5_append 49 = .ok (.ireturn, 1) := by decide +kernel
theorem dX5_load_0 : decode cX5_load 0 = .ok (.aload_n 0, 1) := by decide +kernel
theorem dX5_load_1 : decode cX5_load 1 = .ok (.getfield 10, 3) := by decide +kernel
theorem dX5_load_4 : decode cX5_load 4 = .ok (.invokevirtual 60, 3) := by decide +kernel
theorem dX5_load_7 : decode cX5_load 7 = .ok (.iconst (-1), 1) := by decide +kernel
theorem dX5_load_8 : decode cX5_load 8 = .ok (.if_icmp .ne 7, 3) := by decide +kernel
theorem dX5_load_11 : decode cX5_load 11 = .ok (.iconst 1, 1) := by decide +kernel
theorem dX5_load_12 : decode cX5_load 12 = .ok (.goto 4, 3) := by decide +kernel
theorem dX5_load_15 : decode cX5_load 15 = .ok (.iconst 0, 1) := by decide +kernel
theorem dX5_load_16 : decode cX5_load 16 = .ok (.iconst 3, 1) := by decide +kernel
theorem dX5_load_17 : decode cX5_load 17 = .ok (.invokestatic 48, 3) := by decide +kernel
theorem dX5_load_20 : decode cX5_load 20 = .ok (.aload_n 0, 1) := by decide +kernel
theorem dX5_load_21 : decode cX5_load 21 = .ok (.getfield 19, 3) := by decide +kernel
theorem dX5_load_24 : decode cX5_load 24 = .ok (.invokevirtual 64, 3) := by decide +kernel
theorem dX5_load_27 : decode cX5_load 27 = .ok (.aload_n 0, 1) := by decide +kernel
theorem dX5_load_28 : decode cX5_load 28 = .ok (.getfield 19, 3) := by decide +kernel
theorem dX5_load_31 : decode cX5_load 31 = .ok (.aload_n 0, 1) := by decide +kernel
theorem dX5_load_32 : decode cX5_load 32 = .ok (.getfield 10, 3) := by decide +kernel
theorem dX5_load_35 : decode cX5_load 35 = .ok (.invokevirtual 67, 3) := by decide +kernel
theorem dX5_load_38 : decode cX5_load 38 = .ok (.invokevirtual 70, 3) := by decide +kernel
theorem dX5_load_41 : decode cX5_load 41 = .ok (.iconst 0, 1) := by decide +kernel
theorem dX5_load_42 : decode cX5_load 42 = .ok (.istore_n 1, 1) := by decide +kernel
theorem dX5_load_43 : decode cX5_load 43 = .ok (.iconst 0, 1) := by decide +kernel
theorem dX5_load_44 : decode cX5_load 44 = .ok (.istore_n 2, 1) := by decide +kernel
theorem dX5_load_45 : decode cX5_load 45 = .ok (.iload_n 2, 1) := by decide +kernel
theorem dX5_load_46 : decode cX5_load 46 = .ok (.bipush 120, 2) := by decide +kernel
theorem dX5_load_48 : decode cX5_load 48 = .ok (.if_icmp .ge 61, 3) := by decide +kernel
theorem dX5_load_51 : decode cX5_load 51 = .ok (.aload_n 0, 1) := by decide +kernel
theorem dX5_load_52 : decode cX5_load 52 = .ok (.getfield 10, 3) := by decide +kernel
theorem dX5_load_55 : decode cX5_load 55 = .ok (.invokevirtual 74, 3) := by decide +kernel
theorem dX5_load_58 : decode cX5_load 58 = .ok (.ifCond .eq 51, 3) := by decide +kernel
theorem dX5_load_61 : decode cX5_load 61 = .ok (.aload_n 0, 1) := by decide +kernel
theorem dX5_load_62 : decode cX5_load 62 = .ok (.getfield 19, 3) := by decide +kernel
theorem dX5_load_65 : decode cX5_load 65 = .ok (.aload_n 0, 1) := by decide +kernel
theorem dX5_load_66 : decode cX5_load 66 = .ok (.getfield 10, 3) := by decide +kernel
theorem dX5_load_69 : decode cX5_load 69 = .ok (.getfield 78, 3) := by decide +kernel
theorem dX5_load_72 : decode cX5_load 72 = .ok (.aload_n 0, 1) := by decide +kernel
theorem dX5_load_73 : decode cX5_load 73 = .ok (.getfield 10, 3) := by decide +kernel
theorem dX5_load_76 : decode cX5_load 76 = .ok (.getfield 81, 3) := by decide +kernel
theorem dX5_load_79 : decode cX5_load 79 = .ok (.aload_n 0, 1) := by decide +kernel
theorem dX5_load_80 : decode cX5_load 80 = .ok (.getfield 10, 3) := by decide +kernel
theorem dX5_load_83 : decode cX5_load 83 = .ok (.getfield 84, 3) := by decide +kernel
theorem dX5_load_86 : decode cX5_load 86 = .ok (.aload_n 0, 1) := by decide +kernel
theorem dX5_load_87 : decode cX5_load 87 = .ok (.getfield 10, 3) := by decide +kernel
theorem dX5_load_90 : decode cX5_load 90 = .ok (.getfield 87, 3) := by decide +kernel
theorem dX5_load_93 : decode cX5_load 93 = .ok (.invokevirtual 90, 3) := by decide +kernel
theorem dX5_load_96 : decode cX5_load 96 = .ok (.iconst (-1), 1) := by decide +kernel
theorem dX5_load_97 : decode cX5_load 97 = .ok (.if_icmp .ne 6, 3) := by decide +kernel
theorem dX5_load_100 : decode cX5_load 100 = .ok (.iinc 1 1, 3) := by decide +kernel
theorem dX5_load_103 : decode cX5_load 103 = .ok (.iinc 2 1, 3) := by decide +kernel
theorem dX5_load_106 : decode cX5_load 106 = .ok (.goto (-61), 3) := by decide +kernel
theorem dX5_load_109 : decode cX5_load 109 = .ok (.aload_n 0, 1) := by decide +kernel
theorem dX5_load_110 : decode cX5_load 110 = .ok (.getfield 26, 3) := by decide +kernel
theorem dX5_load_113 : decode cX5_load 113 = .ok (.invokevirtual 94, 3) := by decide +kernel
theorem dX5_load_116 : decode cX5_load 116 = .ok (.iconst 0, 1) := by decide +kernel
theorem dX5_load_117 : decode cX5_load 117 = .ok (.istore_n 2, 1) := by decide +kernel
theorem dX5_load_118 : decode cX5_load 118 = .ok (.iload_n 2, 1) := by decide +kernel
theorem dX5_load_119 : decode cX5_load 119 = .ok (.iconst 2, 1) := by decide +kernel
theorem dX5_load_120 : decode cX5_load 120 = .ok (.if_icmp .ge 16, 3) := by decide +kernel
theorem dX5_load_123 : decode cX5_load 123 = .ok (.aload_n 0, 1) := by decide +kernel
theorem dX5_load_124 : decode cX5_load 124 = .ok (.getfield 34, 3) := by decide +kernel
theorem dX5_load_127 : decode cX5_load 127 = .ok (.iload_n 2, 1) := by decide +kernel
theorem dX5_load_128 : decode cX5_load 128 = .ok (.iconst 0, 1) := by decide +kernel
theorem dX5_load_129 : decode cX5_load 129 = .ok (.bastore, 1) := by decide +kernel
theorem dX5_load_130 : decode cX5_load 130 = .ok (.iinc 2 1, 3) := by decide +kernel
theorem dX5_load_133 : decode cX5_load 133 = .ok (.goto (-15), 3) := by decide +kernel
theorem dX5_load_136 : decode cX5_load 136 = .ok (.iload_n 1, 1) := by decide +kernel
theorem dX5_load_137 : decode cX5_load 137 = .ok (.ireturn, 1) := by decide +kernel
theorem dX5_about_0 : decode cX5_about 0 = .ok (.iload_n 1, 1) := by decide +kernel
theorem dX5_about_1 : decode cX5_about 1 = .ok (.iconst 0, 1) := by decide +kernel
theorem dX5_about_2 : decode cX5_about 2 = .ok (.bipush 8, 2) := by decide +kernel
theorem dX5_about_4 : decode cX5_about 4 = .ok (.invokestatic 44, 3) := by decide +kernel
theorem dX5_about_7 : decode cX5_about 7 = .ok (.iconst 2, 1) := by decide +kernel
theorem dX5_about_8 : decode cX5_about 8 = .ok (.invokestatic 48, 3) := by decide +kernel
theorem dX5_about_11 : decode cX5_about 11 = .ok (.iload_n 1, 1) := by decide +kernel
theorem dX5_about_12 : decode cX5_about 12 = .ok (.tableswitch 120 0 7 #[48, 56, 64, 75, 84, 93, 102, 111], 48) := by decide +kernel
theorem dX5_about_60 : decode cX5_about 60 = .ok (.aload_n 0, 1) := by decide +kernel
theorem dX5_about_61 : decode cX5_about 61 = .ok (.getfield 19, 3) := by decide +kernel
theorem dX5_about_64 : decode cX5_about 64 = .ok (.getfield 97, 3) := by decide +kernel
theorem dX5_about_67 : decode cX5_about 67 = .ok (.ireturn, 1) := by decide +kernel
theorem dX5_about_68 : decode cX5_about 68 = .ok (.aload_n 0, 1) := by decide +kernel
theorem dX5_about_69 : decode cX5_about 69 = .ok (.getfield 19, 3) := by decide +kernel
theorem dX5_about_72 : decode cX5_about 72 = .ok (.getfield 100, 3) := by decide +kernel
theorem dX5_about_75 : decode cX5_about 75 = .ok (.ireturn, 1) := by decide +kernel
theorem dX5_about_76 : decode cX5_about 76 = .ok (.aload_n 0, 1) := by decide +kernel
theorem dX5_about_77 : decode cX5_about 77 = .ok (.getfield 19, 3) := by decide +kernel
theorem dX5_about_80 : decode cX5_about 80 = .ok (.getfield 103, 3) := by decide +kernel
theorem dX5_about_83 : decode cX5_about 83 = .ok (.getfield 107, 3) := by decide +kernel
theorem dX5_about_86 : decode cX5_about 86 = .ok (.ireturn, 1) := by decide +kernel
theorem dX5_about_87 : decode cX5_about 87 = .ok (.aload_n 0, 1) := by decide +kernel
theorem dX5_about_88 : decode cX5_about 88 = .ok (.getfield 19, 3) := by decide +kernel
theorem dX5_about_91 : decode cX5_about 91 = .ok (.iconst 0, 1) := by decide +kernel
theorem dX5_about_92 : decode cX5_about 92 = .ok (.invokevirtual 112, 3) := by decide +kernel
theorem dX5_about_95 : decode cX5_about 95 = .ok (.ireturn, 1) := by decide +kernel
theorem dX5_about_96 : decode cX5_about 96 = .ok (.aload_n 0, 1) := by decide +kernel
theorem dX5_about_97 : decode cX5_about 97 = .ok (.getfield 19, 3) := by decide +kernel
theorem dX5_about_100 : decode cX5_about 100 = .ok (.iconst 1, 1) := by decide +kernel
theorem dX5_about_101 : decode cX5_about 101 = .ok (.invokevirtual 112, 3) := by decide +kernel
theorem dX5_about_104 : decode cX5_about 104 = .ok (.ireturn, 1) := by decide +kernel
theorem dX5_about_105 : decode cX5_about 105 = .ok (.aload_n 0, 1) := by decide +kernel
theorem dX5_about_106 : decode cX5_about 106 = .ok (.getfield 19, 3) := by decide +kernel
theorem dX5_about_109 : decode cX5_about 109 = .ok (.iconst 4, 1) := by decide +kernel
theorem dX5_about_110 : decode cX5_about 110 = .ok (.invokevirtual 112, 3) := by decide +kernel
theorem dX5_about_113 : decode cX5_about 113 = .ok (.ireturn, 1) := by decide +kernel
theorem dX5_about_114 : decode cX5_about 114 = .ok (.aload_n 0, 1) := by decide +kernel
theorem dX5_about_115 : decode cX5_about 115 = .ok (.getfield 19, 3) := by decide +kernel
theorem dX5_about_118 : decode cX5_about 118 = .ok (.iconst 4, 1) := by decide +kernel
theorem dX5_about_119 : decode cX5_about 119 = .ok (.invokevirtual 116, 3) := by decide +kernel
theorem dX5_about_122 : decode cX5_about 122 = .ok (.ireturn, 1) := by decide +kernel
theorem dX5_about_123 : decode cX5_about 123 = .ok (.aload_n 0, 1) := by decide +kernel
theorem dX5_about_124 : decode cX5_about 124 = .ok (.getfield 19, 3) := by decide +kernel
theorem dX5_about_127 : decode cX5_about 127 = .ok (.iconst 0, 1) := by decide +kernel
theorem dX5_about_128 : decode cX5_about 128 = .ok (.invokevirtual 116, 3) := by decide +kernel
theorem dX5_about_131 : decode cX5_about 131 = .ok (.ireturn, 1) := by decide +kernel
theorem dX5_about_132 : decode cX5_about 132 = .ok (.aload_n 0, 1) := by decide +kernel
theorem dX5_about_133 : decode cX5_about 133 = .ok (.getfield 19, 3) := by decide +kernel
theorem dX5_about_136 : decode cX5_about 136 = .ok (.iconst 5, 1) := by decide +kernel
theorem dX5_about_137 : decode cX5_about 137 = .ok (.invokevirtual 112, 3) := by decide +kernel
theorem dX5_about_140 : decode cX5_about 140 = .ok (.ireturn, 1) := by decide +kernel
theorem dX5_writer_0 : decode cX5_writer 0 = .ok (.aload_n 0, 1) := by decide +kernel
theorem dX5_writer_1 : decode cX5_writer 1 = .ok (.getfield 19, 3) := by decide +kernel
theorem dX5_writer_4 : decode cX5_writer 4 = .ok (.iload_n 1, 1) := by decide +kernel
theorem dX5_writer_5 : decode cX5_writer 5 = .ok (.invokevirtual 119, 3) := by decide +kernel
theorem dX5_writer_8 : decode cX5_writer 8 = .ok (.invokestatic 122, 3) := by decide +kernel
theorem dX5_writer_11 : decode cX5_writer 11 = .ok (.iload_n 2, 1) := by decide +kernel
theorem dX5_writer_12 : decode cX5_writer 12 = .ok (.iconst 0, 1) := by decide +kernel
theorem dX5_writer_13 : decode cX5_writer 13 = .ok (.bipush 6, 2) := by decide +kernel
theorem dX5_writer_15 : decode cX5_writer 15 = .ok (.invokestatic 44, 3) := by decide +kernel
theorem dX5_writer_18 : decode cX5_writer 18 = .ok (.iconst 2, 1) := by decide +kernel
theorem dX5_writer_19 : decode cX5_writer 19 = .ok (.invokestatic 48, 3) := by decide +kernel
theorem dX5_writer_22 : decode cX5_writer 22 = .ok (.aload_n 0, 1) := by decide +kernel
theorem dX5_writer_23 : decode cX5_writer 23 = .ok (.getfield 19, 3) := by decide +kernel
theorem dX5_writer_26 : decode cX5_writer 26 = .ok (.getfield 125, 3) := by decide +kernel
theorem dX5_writer_29 : decode cX5_writer 29 = .ok (.iload_n 1, 1) := by decide +kernel
theorem dX5_writer_30 : decode cX5_writer 30 = .ok (.aaload, 1) := by decide +kernel
theorem dX5_writer_31 : decode cX5_writer 31 = .ok (.iload_n 2, 1) := by decide +kernel
theorem dX5_writer_32 : decode cX5_writer 32 = .ok (.invokevirtual 129, 3) := by decide +kernel
theorem dX5_writer_35 : decode cX5_writer 35 = .ok (.ireturn, 1) := by decide +kernel
theorem dX5_desk_0 : decode cX5_desk 0 = .ok (.aload_n 0, 1) := by decide +kernel
theorem dX5_desk_1 : decode cX5_desk 1 = .ok (.getfield 19, 3) := by decide +kernel
theorem dX5_desk_4 : decode cX5_desk 4 = .ok (.iload_n 1, 1) := by decide +kernel
theorem dX5_desk_5 : decode cX5_desk 5 = .ok (.invokevirtual 119, 3) := by decide +kernel
theorem dX5_desk_8 : decode cX5_desk 8 = .ok (.invokestatic 122, 3) := by decide +kernel
theorem dX5_desk_11 : decode cX5_desk 11 = .ok (.iload_n 2, 1) := by decide +kernel
theorem dX5_desk_12 : decode cX5_desk 12 = .ok (.iconst 0, 1) := by decide +kernel
theorem dX5_desk_13 : decode cX5_desk 13 = .ok (.iconst 5, 1) := by decide +kernel
theorem dX5_desk_14 : decode cX5_desk 14 = .ok (.invokestatic 44, 3) := by decide +kernel
theorem dX5_desk_17 : decode cX5_desk 17 = .ok (.iconst 2, 1) := by decide +kernel
theorem dX5_desk_18 : decode cX5_desk 18 = .ok (.invokestatic 48, 3) := by decide +kernel
theorem dX5_desk_21 : decode cX5_desk 21 = .ok (.aload_n 0, 1) := by decide +kernel
theorem dX5_desk_22 : decode cX5_desk 22 = .ok (.getfield 19, 3) := by decide +kernel
theorem dX5_desk_25 : decode cX5_desk 25 = .ok (.getfield 125, 3) := by decide +kernel
theorem dX5_desk_28 : decode cX5_desk 28 = .ok (.iload_n 1, 1) := by decide +kernel
theorem dX5_desk_29 : decode cX5_desk 29 = .ok (.aaload, 1) := by decide +kernel
theorem dX5_desk_30 : decode cX5_desk 30 = .ok (.iload_n 2, 1) := by decide +kernel
theorem dX5_desk_31 : decode cX5_desk 31 = .ok (.invokevirtual 134, 3) := by decide +kernel
theorem dX5_desk_34 : decode cX5_desk 34 = .ok (.ireturn, 1) := by decide +kernel
theorem dX5_letter_0 : decode cX5_letter 0 = .ok (.aload_n 0, 1) := by decide +kernel
theorem dX5_letter_1 : decode cX5_letter 1 = .ok (.getfield 19, 3) := by decide +kernel
theorem dX5_letter_4 : decode cX5_letter 4 = .ok (.iload_n 1, 1) := by decide +kernel
theorem dX5_letter_5 : decode cX5_letter 5 = .ok (.invokevirtual 119, 3) := by decide +kernel
theorem dX5_letter_8 : decode cX5_letter 8 = .ok (.invokestatic 122, 3) := by decide +kernel
theorem dX5_letter_11 : decode cX5_letter 11 = .ok (.aload_n 0, 1) := by decide +kernel
theorem dX5_letter_12 : decode cX5_letter 12 = .ok (.getfield 19, 3) := by decide +kernel
theorem dX5_letter_15 : decode cX5_letter 15 = .ok (.getfield 125, 3) := by decide +kernel
theorem dX5_letter_18 : decode cX5_letter 18 = .ok (.iload_n 1, 1) := by decide +kernel
theorem dX5_letter_19 : decode cX5_letter 19 = .ok (.aaload, 1) := by decide +kernel
theorem dX5_letter_20 : decode cX5_letter 20 = .ok (.getfield 137, 3) := by decide +kernel
theorem dX5_letter_23 : decode cX5_letter 23 = .ok (.astore 4, 2) := by decide +kernel
theorem dX5_letter_25 : decode cX5_letter 25 = .ok (.iload_n 2, 1) := by decide +kernel
theorem dX5_letter_26 : decode cX5_letter 26 = .ok (.iconst 0, 1) := by decide +kernel
theorem dX5_letter_27 : decode cX5_letter 27 = .ok (.aload 4, 2) := by decide +kernel
theorem dX5_letter_29 : decode cX5_letter 29 = .ok (.getfield 107, 3) := by decide +kernel
theorem dX5_letter_32 : decode cX5_letter 32 = .ok (.iconst 1, 1) := by decide +kernel
theorem dX5_letter_33 : decode cX5_letter 33 = .ok (.isub, 1) := by decide +kernel
theorem dX5_letter_34 : decode cX5_letter 34 = .ok (.invokestatic 44, 3) := by decide +kernel
theorem dX5_letter_37 : decode cX5_letter 37 = .ok (.iconst 1, 1) := by decide +kernel
theorem dX5_letter_38 : decode cX5_letter 38 = .ok (.invokestatic 48, 3) := by decide +kernel
theorem dX5_letter_41 : decode cX5_letter 41 = .ok (.iload_n 3, 1) := by decide +kernel
theorem dX5_letter_42 : decode cX5_letter 42 = .ok (.iconst 0, 1) := by decide +kernel
theorem dX5_letter_43 : decode cX5_letter 43 = .ok (.iconst 1, 1) := by decide +kernel
theorem dX5_letter_44 : decode cX5_letter 44 = .ok (.invokestatic 44, 3) := by decide +kernel
theorem dX5_letter_47 : decode cX5_letter 47 = .ok (.iconst 2, 1) := by decide +kernel
theorem dX5_letter_48 : decode cX5_letter 48 = .ok (.invokestatic 48, 3) := by decide +kernel
theorem dX5_letter_51 : decode cX5_letter 51 = .ok (.iload_n 3, 1) := by decide +kernel
theorem dX5_letter_52 : decode cX5_letter 52 = .ok (.ifCond .ne 12, 3) := by decide +kernel
theorem dX5_letter_55 : decode cX5_letter 55 = .ok (.aload 4, 2) := by decide +kernel
theorem dX5_letter_57 : decode cX5_letter 57 = .ok (.iload_n 2, 1) := by decide +kernel
theorem dX5_letter_58 : decode cX5_letter 58 = .ok (.invokevirtual 140, 3) := by decide +kernel
theorem dX5_letter_61 : decode cX5_letter 61 = .ok (.goto 9, 3) := by decide +kernel
theorem dX5_letter_64 : decode cX5_letter 64 = .ok (.aload 4, 2) := by decide +kernel
theorem dX5_letter_66 : decode cX5_letter 66 = .ok (.iload_n 2, 1) := by decide +kernel
theorem dX5_letter_67 : decode cX5_letter 67 = .ok (.invokevirtual 143, 3) := by decide +kernel
theorem dX5_letter_70 : decode cX5_letter 70 = .ok (.ireturn, 1) := by decide +kernel
theorem dX5_planned_0 : decode cX5_planned 0 = .ok (.aload_n 0, 1) := by decide +kernel
theorem dX5_planned_1 : decode cX5_planned 1 = .ok (.getfield 19, 3) := by decide +kernel
theorem dX5_planned_4 : decode cX5_planned 4 = .ok (.getfield 103, 3) := by decide +kernel
theorem dX5_planned_7 : decode cX5_planned 7 = .ok (.astore_n 3, 1) := by decide +kernel
theorem dX5_planned_8 : decode cX5_planned 8 = .ok (.iload_n 1, 1) := by decide +kernel
theorem dX5_planned_9 : decode cX5_planned 9 = .ok (.iconst 0, 1) := by decide +kernel
theorem dX5_planned_10 : decode cX5_planned 10 = .ok (.aload_n 3, 1) := by decide +kernel
theorem dX5_planned_11 : decode cX5_planned 11 = .ok (.getfield 107, 3) := by decide +kernel
theorem dX5_planned_14 : decode cX5_planned 14 = .ok (.iconst 1, 1) := by decide +kernel
theorem dX5_planned_15 : decode cX5_planned 15 = .ok (.isub, 1) := by decide +kernel
theorem dX5_planned_16 : decode cX5_planned 16 = .ok (.invokestatic 44, 3) := by decide +kernel
theorem dX5_planned_19 : decode cX5_planned 19 = .ok (.iconst 1, 1) := by decide +kernel
theorem dX5_planned_20 : decode cX5_planned 20 = .ok (.invokestatic 48, 3) := by decide +kernel
theorem dX5_planned_23 : decode cX5_planned 23 = .ok (.iload_n 2, 1) := by decide +kernel
theorem dX5_planned_24 : decode cX5_planned 24 = .ok (.iconst 0, 1) := by decide +kernel
theorem dX5_planned_25 : decode cX5_planned 25 = .ok (.iconst 2, 1) := by decide +kernel
theorem dX5_planned_26 : decode cX5_planned 26 = .ok (.invokestatic 44, 3) := by decide +kernel
theorem dX5_planned_29 : decode cX5_planned 29 = .ok (.iconst 2, 1) := by decide +kernel
theorem dX5_planned_30 : decode cX5_planned 30 = .ok (.invokestatic 48, 3) := by decide +kernel
theorem dX5_planned_33 : decode cX5_planned 33 = .ok (.iload_n 2, 1) := by decide +kernel
theorem dX5_planned_34 : decode cX5_planned 34 = .ok (.lookupswitch 38 #[(0, 26), (1, 32)], 26) := by decide +kernel
theorem dX5_planned_60 : decode cX5_planned 60 = .ok (.aload_n 3, 1) := by decide +kernel
theorem dX5_planned_61 : decode cX5_planned 61 = .ok (.iload_n 1, 1) := by decide +kernel
theorem dX5_planned_62 : decode cX5_planned 62 = .ok (.invokevirtual 143, 3) := by decide +kernel
theorem dX5_planned_65 : decode cX5_planned 65 = .ok (.ireturn, 1) := by decide +kernel
theorem dX5_planned_66 : decode cX5_planned 66 = .ok (.aload_n 3, 1) := by decide +kernel
theorem dX5_planned_67 : decode cX5_planned 67 = .ok (.iload_n 1, 1) := by decide +kernel
theorem dX5_planned_68 : decode cX5_planned 68 = .ok (.invokevirtual 146, 3) := by decide +kernel
theorem dX5_planned_71 : decode cX5_planned 71 = .ok (.ireturn, 1) := by decide +kernel
theorem dX5_planned_72 : decode cX5_planned 72 = .ok (.aload_n 3, 1) := by decide +kernel
theorem dX5_planned_73 : decode cX5_planned 73 = .ok (.iload_n 1, 1) := by decide +kernel
theorem dX5_planned_74 : decode cX5_planned 74 = .ok (.invokevirtual 140, 3) := by decide +kernel
theorem dX5_planned_77 : decode cX5_planned 77 = .ok (.ireturn, 1) := by decide +kernel
theorem dX5_setting_0 : decode cX5_setting 0 = .ok (.iload_n 1, 1) := by decide +kernel
theorem dX5_setting_1 : decode cX5_setting 1 = .ok (.iconst 0, 1) := by decide +kernel
theorem dX5_setting_2 : decode cX5_setting 2 = .ok (.iconst 3, 1) := by decide +kernel
theorem dX5_setting_3 : decode cX5_setting 3 = .ok (.invokestatic 44, 3) := by decide +kernel
theorem dX5_setting_6 : decode cX5_setting 6 = .ok (.iconst 2, 1) := by decide +kernel
theorem dX5_setting_7 : decode cX5_setting 7 = .ok (.invokestatic 48, 3) := by decide +kernel
theorem dX5_setting_10 : decode cX5_setting 10 = .ok (.aload_n 0, 1) := by decide +kernel
theorem dX5_setting_11 : decode cX5_setting 11 = .ok (.getfield 19, 3) := by decide +kernel
theorem dX5_setting_14 : decode cX5_setting 14 = .ok (.getfield 149, 3) := by decide +kernel
theorem dX5_setting_17 : decode cX5_setting 17 = .ok (.iload_n 1, 1) := by decide +kernel
theorem dX5_setting_18 : decode cX5_setting 18 = .ok (.iaload, 1) := by decide +kernel
theorem dX5_setting_19 : decode cX5_setting 19 = .ok (.ireturn, 1) := by decide +kernel
theorem dX5_post_0 : decode cX5_post 0 = .ok (.aload_n 0, 1) := by decide +kernel
theorem dX5_post_1 : decode cX5_post 1 = .ok (.iconst 0, 1) := by decide +kernel
theorem dX5_post_2 : decode cX5_post 2 = .ok (.iload_n 1, 1) := by decide +kernel
theorem dX5_post_3 : decode cX5_post 3 = .ok (.iconst 0, 1) := by decide +kernel
theorem dX5_post_4 : decode cX5_post 4 = .ok (.iconst 0, 1) := by decide +kernel
theorem dX5_post_5 : decode cX5_post 5 = .ok (.invokevirtual 153, 3) := by decide +kernel
theorem dX5_post_8 : decode cX5_post 8 = .ok (.ireturn, 1) := by decide +kernel
theorem dX5_write_0 : decode cX5_write 0 = .ok (.aload_n 0, 1) := by decide +kernel
theorem dX5_write_1 : decode cX5_write 1 = .ok (.iconst 1, 1) := by decide +kernel
theorem dX5_write_2 : decode cX5_write 2 = .ok (.iload_n 1, 1) := by decide +kernel
theorem dX5_write_3 : decode cX5_write 3 = .ok (.iload_n 2, 1) := by decide +kernel
theorem dX5_write_4 : decode cX5_write 4 = .ok (.iconst 0, 1) := by decide +kernel
theorem dX5_write_5 : decode cX5_write 5 = .ok (.invokevirtual 153, 3) := by decide +kernel
theorem dX5_write_8 : decode cX5_write 8 = .ok (.ireturn, 1) := by decide +kernel
theorem dX5_plan_0 : decode cX5_plan 0 = .ok (.aload_n 0, 1) := by decide +kernel
theorem dX5_plan_1 : decode cX5_plan 1 = .ok (.iconst 2, 1) := by decide +kernel
theorem dX5_plan_2 : decode cX5_plan 2 = .ok (.iload_n 1, 1) := by decide +kernel
theorem dX5_plan_3 : decode cX5_plan 3 = .ok (.iload_n 2, 1) := by decide +kernel
theorem dX5_plan_4 : decode cX5_plan 4 = .ok (.iload_n 3, 1) := by decide +kernel
theorem dX5_plan_5 : decode cX5_plan 5 = .ok (.invokevirtual 153, 3) := by decide +kernel
theorem dX5_plan_8 : decode cX5_plan 8 = .ok (.ireturn, 1) := by decide +kernel
theorem dX5_hold_0 : decode cX5_hold 0 = .ok (.aload_n 0, 1) := by decide +kernel
theorem dX5_hold_1 : decode cX5_hold 1 = .ok (.iconst 3, 1) := by decide +kernel
theorem dX5_hold_2 : decode cX5_hold 2 = .ok (.iload_n 1, 1) := by decide +kernel
theorem dX5_hold_3 : decode cX5_hold 3 = .ok (.iload_n 2, 1) := by decide +kernel
theorem dX5_hold_4 : decode cX5_hold 4 = .ok (.ifCond .eq 7, 3) := by decide +kernel
theorem dX5_hold_7 : decode cX5_hold 7 = .ok (.iconst 1, 1) := by decide +kernel
theorem dX5_hold_8 : decode cX5_hold 8 = .ok (.goto 4, 3) := by decide +kernel
theorem dX5_hold_11 : decode cX5_hold 11 = .ok (.iconst 0, 1) := by decide +kernel
theorem dX5_hold_12 : decode cX5_hold 12 = .ok (.iconst 0, 1) := by decide +kernel
theorem dX5_hold_13 : decode cX5_hold 13 = .ok (.invokevirtual 153, 3) := by decide +kernel
theorem dX5_hold_16 : decode cX5_hold 16 = .ok (.ireturn, 1) := by decide +kernel
theorem dX5_flush_0 : decode cX5_flush 0 = .ok (.aload_n 0, 1) := by decide +kernel
theorem dX5_flush_1 : decode cX5_flush 1 = .ok (.iconst 4, 1) := by decide +kernel
theorem dX5_flush_2 : decode cX5_flush 2 = .ok (.iload_n 1, 1) := by decide +kernel
theorem dX5_flush_3 : decode cX5_flush 3 = .ok (.iconst 0, 1) := by decide +kernel
theorem dX5_flush_4 : decode cX5_flush 4 = .ok (.iconst 0, 1) := by decide +kernel
theorem dX5_flush_5 : decode cX5_flush 5 = .ok (.invokevirtual 153, 3) := by decide +kernel
theorem dX5_flush_8 : decode cX5_flush 8 = .ok (.ireturn, 1) := by decide +kernel
theorem dX5_ticks_0 : decode cX5_ticks 0 = .ok (.aload_n 0, 1) := by decide +kernel
theorem dX5_ticks_1 : decode cX5_ticks 1 = .ok (.getfield 19, 3) := by decide +kernel
theorem dX5_ticks_4 : decode cX5_ticks 4 = .ok (.iconst 5, 1) := by decide +kernel
theorem dX5_ticks_5 : decode cX5_ticks 5 = .ok (.iload_n 1, 1) := by decide +kernel
theorem dX5_ticks_6 : decode cX5_ticks 6 = .ok (.iconst 0, 1) := by decide +kernel
theorem dX5_ticks_7 : decode cX5_ticks 7 = .ok (.iconst 0, 1) := by decide +kernel
theorem dX5_ticks_8 : decode cX5_ticks 8 = .ok (.invokevirtual 156, 3) := by decide +kernel
theorem dX5_ticks_11 : decode cX5_ticks 11 = .ok (.invokestatic 122, 3) := by decide +kernel
theorem dX5_ticks_14 : decode cX5_ticks 14 = .ok (.aload_n 0, 1) := by decide +kernel
theorem dX5_ticks_15 : decode cX5_ticks 15 = .ok (.getfield 19, 3) := by decide +kernel
theorem dX5_ticks_18 : decode cX5_ticks 18 = .ok (.getfield 100, 3) := by decide +kernel
theorem dX5_ticks_21 : decode cX5_ticks 21 = .ok (.iload_n 1, 1) := by decide +kernel
theorem dX5_ticks_22 : decode cX5_ticks 22 = .ok (.iadd, 1) := by decide +kernel
theorem dX5_ticks_23 : decode cX5_ticks 23 = .ok (.ldc 159, 2) := by decide +kernel
theorem dX5_ticks_25 : decode cX5_ticks 25 = .ok (.if_icmp .gt 7, 3) := by decide +kernel
theorem dX5_ticks_28 : decode cX5_ticks 28 = .ok (.iconst 1, 1) := by decide +kernel
theorem dX5_ticks_29 : decode cX5_ticks 29 = .ok (.goto 4, 3) := by decide +kernel
theorem dX5_ticks_32 : decode cX5_ticks 32 = .ok (.iconst 0, 1) := by decide +kernel
theorem dX5_ticks_33 : decode cX5_ticks 33 = .ok (.iconst 3, 1) := by decide +kernel
theorem dX5_ticks_34 : decode cX5_ticks 34 = .ok (.invokestatic 48, 3) := by decide +kernel
theorem dX5_ticks_37 : decode cX5_ticks 37 = .ok (.aload_n 0, 1) := by decide +kernel
theorem dX5_ticks_38 : decode cX5_ticks 38 = .ok (.iconst 5, 1) := by decide +kernel
theorem dX5_ticks_39 : decode cX5_ticks 39 = .ok (.iload_n 1, 1) := by decide +kernel
theorem dX5_ticks_40 : decode cX5_ticks 40 = .ok (.iconst 0, 1) := by decide +kernel
theorem dX5_ticks_41 : decode cX5_ticks 41 = .ok (.iconst 0, 1) := by decide +kernel
theorem dX5_ticks_42 : decode cX5_ticks 42 = .ok (.invokevirtual 153, 3) := by decide +kernel
theorem dX5_ticks_45 : decode cX5_ticks 45 = .ok (.ireturn, 1) := by decide +kernel
theorem dX5_set_0 : decode cX5_set 0 = .ok (.aload_n 0, 1) := by decide +kernel
theorem dX5_set_1 : decode cX5_set 1 = .ok (.bipush 6, 2) := by decide +kernel
theorem dX5_set_3 : decode cX5_set 3 = .ok (.iload_n 1, 1) := by decide +kernel
theorem dX5_set_4 : decode cX5_set 4 = .ok (.iload_n 2, 1) := by decide +kernel
theorem dX5_set_5 : decode cX5_set 5 = .ok (.iconst 0, 1) := by decide +kernel
theorem dX5_set_6 : decode cX5_set 6 = .ok (.invokevirtual 153, 3) := by decide +kernel
theorem dX5_set_9 : decode cX5_set 9 = .ok (.ireturn, 1) := by decide +kernel
theorem dX5_undo_0 : decode cX5_undo 0 = .ok (.aload_n 0, 1) := by decide +kernel
theorem dX5_undo_1 : decode cX5_undo 1 = .ok (.getfield 26, 3) := by decide +kernel
theorem dX5_undo_4 : decode cX5_undo 4 = .ok (.getfield 160, 3) := by decide +kernel
theorem dX5_undo_7 : decode cX5_undo 7 = .ok (.ifCond .le 7, 3) := by decide +kernel
theorem dX5_undo_10 : decode cX5_undo 10 = .ok (.iconst 1, 1) := by decide +kernel
theorem dX5_undo_11 : decode cX5_undo 11 = .ok (.goto 4, 3) := by decide +kernel
theorem dX5_undo_14 : decode cX5_undo 14 = .ok (.iconst 0, 1) := by decide +kernel
theorem dX5_undo_15 : decode cX5_undo 15 = .ok (.iconst 3, 1) := by decide +kernel
theorem dX5_undo_16 : decode cX5_undo 16 = .ok (.invokestatic 48, 3) := by decide +kernel
theorem dX5_undo_19 : decode cX5_undo 19 = .ok (.aload_n 0, 1) := by decide +kernel
theorem dX5_undo_20 : decode cX5_undo 20 = .ok (.getfield 26, 3) := by decide +kernel
theorem dX5_undo_23 : decode cX5_undo 23 = .ok (.aload_n 0, 1) := by decide +kernel
theorem dX5_undo_24 : decode cX5_undo 24 = .ok (.getfield 19, 3) := by decide +kernel
theorem dX5_undo_27 : decode cX5_undo 27 = .ok (.invokevirtual 161, 3) := by decide +kernel
theorem dX5_undo_30 : decode cX5_undo 30 = .ok (.aload_n 0, 1) := by decide +kernel
theorem dX5_undo_31 : decode cX5_undo 31 = .ok (.getfield 26, 3) := by decide +kernel
theorem dX5_undo_34 : decode cX5_undo 34 = .ok (.getfield 160, 3) := by decide +kernel
theorem dX5_undo_37 : decode cX5_undo 37 = .ok (.ireturn, 1) := by decide +kernel
theorem dX5_doneIn_0 : decode cX5_doneIn 0 = .ok (.aload_n 0, 1) := by decide +kernel
theorem dX5_doneIn_1 : decode cX5_doneIn 1 = .ok (.getfield 19, 3) := by decide +kernel
theorem dX5_doneIn_4 : decode cX5_doneIn 4 = .ok (.iload_n 1, 1) := by decide +kernel
theorem dX5_doneIn_5 : decode cX5_doneIn 5 = .ok (.invokevirtual 119, 3) := by decide +kernel
theorem dX5_doneIn_8 : decode cX5_doneIn 8 = .ok (.invokestatic 122, 3) := by decide +kernel
theorem dX5_doneIn_11 : decode cX5_doneIn 11 = .ok (.aload_n 0, 1) := by decide +kernel
theorem dX5_doneIn_12 : decode cX5_doneIn 12 = .ok (.getfield 41, 3) := by decide +kernel
theorem dX5_doneIn_15 : decode cX5_doneIn 15 = .ok (.aload_n 0, 1) := by decide +kernel
theorem dX5_doneIn_16 : decode cX5_doneIn 16 = .ok (.getfield 19, 3) := by decide +kernel
theorem dX5_doneIn_19 : decode cX5_doneIn 19 = .ok (.invokevirtual 165, 3) := by decide +kernel
theorem dX5_doneIn_22 : decode cX5_doneIn 22 = .ok (.aload_n 0, 1) := by decide +kernel
theorem dX5_doneIn_23 : decode cX5_doneIn 23 = .ok (.getfield 41, 3) := by decide +kernel
theorem dX5_doneIn_26 : decode cX5_doneIn 26 = .ok (.iload_n 1, 1) := by decide +kernel
theorem dX5_doneIn_27 : decode cX5_doneIn 27 = .ok (.sipush 400, 3) := by decide +kernel
theorem dX5_doneIn_30 : decode cX5_doneIn 30 = .ok (.invokevirtual 168, 3) := by decide +kernel
theorem dX5_doneIn_33 : decode cX5_doneIn 33 = .ok (.ireturn, 1) := by decide +kernel
theorem dX5_thereIn_0 : decode cX5_thereIn 0 = .ok (.aload_n 0, 1) := by decide +kernel
theorem dX5_thereIn_1 : decode cX5_thereIn 1 = .ok (.getfield 19, 3) := by decide +kernel
theorem dX5_thereIn_4 : decode cX5_thereIn 4 = .ok (.iconst 1, 1) := by decide +kernel
theorem dX5_thereIn_5 : decode cX5_thereIn 5 = .ok (.iload_n 1, 1) := by decide +kernel
theorem dX5_thereIn_6 : decode cX5_thereIn 6 = .ok (.iload_n 2, 1) := by decide +kernel
theorem dX5_thereIn_7 : decode cX5_thereIn 7 = .ok (.iconst 0, 1) := by decide +kernel
theorem dX5_thereIn_8 : decode cX5_thereIn 8 = .ok (.invokevirtual 156, 3) := by decide +kernel
theorem dX5_thereIn_11 : decode cX5_thereIn 11 = .ok (.istore_n 3, 1) := by decide +kernel
theorem dX5_thereIn_12 : decode cX5_thereIn 12 = .ok (.iload_n 3, 1) := by decide +kernel
theorem dX5_thereIn_13 : decode cX5_thereIn 13 = .ok (.iconst 3, 1) := by decide +kernel
theorem dX5_thereIn_14 : decode cX5_thereIn 14 = .ok (.if_icmp .ne 5, 3) := by decide +kernel
theorem dX5_thereIn_17 : decode cX5_thereIn 17 = .ok (.iconst (-1), 1) := by decide +kernel
theorem dX5_thereIn_18 : decode cX5_thereIn 18 = .ok (.ireturn, 1) := by decide +kernel
theorem dX5_thereIn_19 : decode cX5_thereIn 19 = .ok (.iload_n 3, 1) := by decide +kernel
theorem dX5_thereIn_20 : decode cX5_thereIn 20 = .ok (.invokestatic 122, 3) := by decide +kernel
theorem dX5_thereIn_23 : decode cX5_thereIn 23 = .ok (.aload_n 0, 1) := by decide +kernel
theorem dX5_thereIn_24 : decode cX5_thereIn 24 = .ok (.getfield 41, 3) := by decide +kernel
theorem dX5_thereIn_27 : decode cX5_thereIn 27 = .ok (.aload_n 0, 1) := by decide +kernel
theorem dX5_thereIn_28 : decode cX5_thereIn 28 = .ok (.getfield 19, 3) := by decide +kernel
theorem dX5_thereIn_31 : decode cX5_thereIn 31 = .ok (.invokevirtual 165, 3) := by decide +kernel
theorem dX5_thereIn_34 : decode cX5_thereIn 34 = .ok (.aload_n 0, 1) := by decide +kernel
theorem dX5_thereIn_35 : decode cX5_thereIn 35 = .ok (.getfield 41, 3) := by decide +kernel
theorem dX5_thereIn_38 : decode cX5_thereIn 38 = .ok (.iconst 1, 1) := by decide +kernel
theorem dX5_thereIn_39 : decode cX5_thereIn 39 = .ok (.iload_n 1, 1) := by decide +kernel
theorem dX5_thereIn_40 : decode cX5_thereIn 40 = .ok (.iload_n 2, 1) := by decide +kernel
theorem dX5_thereIn_41 : decode cX5_thereIn 41 = .ok (.iconst 0, 1) := by decide +kernel
theorem dX5_thereIn_42 : decode cX5_thereIn 42 = .ok (.invokevirtual 90, 3) := by decide +kernel
theorem dX5_thereIn_45 : decode cX5_thereIn 45 = .ok (.pop, 1) := by decide +kernel
theorem dX5_thereIn_46 : decode cX5_thereIn 46 = .ok (.aload_n 0, 1) := by decide +kernel
theorem dX5_thereIn_47 : decode cX5_thereIn 47 = .ok (.getfield 41, 3) := by decide +kernel
theorem dX5_thereIn_50 : decode cX5_thereIn 50 = .ok (.iload_n 1, 1) := by decide +kernel
theorem dX5_thereIn_51 : decode cX5_thereIn 51 = .ok (.aload_n 0, 1) := by decide +kernel
theorem dX5_thereIn_52 : decode cX5_thereIn 52 = .ok (.getfield 41, 3) := by decide +kernel
theorem dX5_thereIn_55 : decode cX5_thereIn 55 = .ok (.getfield 125, 3) := by decide +kernel
theorem dX5_thereIn_58 : decode cX5_thereIn 58 = .ok (.iload_n 1, 1) := by decide +kernel
theorem dX5_thereIn_59 : decode cX5_thereIn 59 = .ok (.aaload, 1) := by decide +kernel
theorem dX5_thereIn_60 : decode cX5_thereIn 60 = .ok (.getfield 172, 3) := by decide +kernel
theorem dX5_thereIn_63 : decode cX5_thereIn 63 = .ok (.invokevirtual 175, 3) := by decide +kernel
theorem dX5_thereIn_66 : decode cX5_thereIn 66 = .ok (.ireturn, 1) := by decide +kernel
theorem dX5_ifHeld_0 : decode cX5_ifHeld 0 = .ok (.aload_n 0, 1) := by decide +kernel
theorem dX5_ifHeld_1 : decode cX5_ifHeld 1 = .ok (.getfield 19, 3) := by decide +kernel
theorem dX5_ifHeld_4 : decode cX5_ifHeld 4 = .ok (.iload_n 1, 1) := by decide +kernel
theorem dX5_ifHeld_5 : decode cX5_ifHeld 5 = .ok (.invokevirtual 119, 3) := by decide +kernel
theorem dX5_ifHeld_8 : decode cX5_ifHeld 8 = .ok (.invokestatic 122, 3) := by decide +kernel
theorem dX5_ifHeld_11 : decode cX5_ifHeld 11 = .ok (.iload_n 2, 1) := by decide +kernel
theorem dX5_ifHeld_12 : decode cX5_ifHeld 12 = .ok (.iconst 0, 1) := by decide +kernel
theorem dX5_ifHeld_13 : decode cX5_ifHeld 13 = .ok (.iconst 3, 1) := by decide +kernel
theorem dX5_ifHeld_14 : decode cX5_ifHeld 14 = .ok (.invokestatic 44, 3) := by decide +kernel
theorem dX5_ifHeld_17 : decode cX5_ifHeld 17 = .ok (.iconst 2, 1) := by decide +kernel
theorem dX5_ifHeld_18 : decode cX5_ifHeld 18 = .ok (.invokestatic 48, 3) := by decide +kernel
theorem dX5_ifHeld_21 : decode cX5_ifHeld 21 = .ok (.aload_n 0, 1) := by decide +kernel
theorem dX5_ifHeld_22 : decode cX5_ifHeld 22 = .ok (.getfield 41, 3) := by decide +kernel
theorem dX5_ifHeld_25 : decode cX5_ifHeld 25 = .ok (.aload_n 0, 1) := by decide +kernel
theorem dX5_ifHeld_26 : decode cX5_ifHeld 26 = .ok (.getfield 19, 3) := by decide +kernel
theorem dX5_ifHeld_29 : decode cX5_ifHeld 29 = .ok (.invokevirtual 165, 3) := by decide +kernel
theorem dX5_ifHeld_32 : decode cX5_ifHeld 32 = .ok (.aload_n 0, 1) := by decide +kernel
theorem dX5_ifHeld_33 : decode cX5_ifHeld 33 = .ok (.getfield 41, 3) := by decide +kernel
theorem dX5_ifHeld_36 : decode cX5_ifHeld 36 = .ok (.getfield 125, 3) := by decide +kernel
theorem dX5_ifHeld_39 : decode cX5_ifHeld 39 = .ok (.iload_n 1, 1) := by decide +kernel
theorem dX5_ifHeld_40 : decode cX5_ifHeld 40 = .ok (.aaload, 1) := by decide +kernel
theorem dX5_ifHeld_41 : decode cX5_ifHeld 41 = .ok (.getfield 178, 3) := by decide +kernel
theorem dX5_ifHeld_44 : decode cX5_ifHeld 44 = .ok (.istore_n 3, 1) := by decide +kernel
theorem dX5_ifHeld_45 : decode cX5_ifHeld 45 = .ok (.aload_n 0, 1) := by decide +kernel
theorem dX5_ifHeld_46 : decode cX5_ifHeld 46 = .ok (.getfield 41, 3) := by decide +kernel
theorem dX5_ifHeld_49 : decode cX5_ifHeld 49 = .ok (.iconst 3, 1) := by decide +kernel
theorem dX5_ifHeld_50 : decode cX5_ifHeld 50 = .ok (.iload_n 1, 1) := by decide +kernel
theorem dX5_ifHeld_51 : decode cX5_ifHeld 51 = .ok (.iload_n 2, 1) := by decide +kernel
theorem dX5_ifHeld_52 : decode cX5_ifHeld 52 = .ok (.ifCond .eq 8, 3) := by decide +kernel
theorem dX5_ifHeld_55 : decode cX5_ifHeld 55 = .ok (.iload_n 2, 1) := by decide +kernel
theorem dX5_ifHeld_56 : decode cX5_ifHeld 56 = .ok (.iconst 2, 1) := by decide +kernel
theorem dX5_ifHeld_57 : decode cX5_ifHeld 57 = .ok (.if_icmp .ne 7, 3) := by decide +kernel
theorem dX5_ifHeld_60 : decode cX5_ifHeld 60 = .ok (.iconst 1, 1) := by decide +kernel
theorem dX5_ifHeld_61 : decode cX5_ifHeld 61 = .ok (.goto 4, 3) := by decide +kernel
theorem dX5_ifHeld_64 : decode cX5_ifHeld 64 = .ok (.iconst 0, 1) := by decide +kernel
theorem dX5_ifHeld_65 : decode cX5_ifHeld 65 = .ok (.iconst 0, 1) := by decide +kernel
theorem dX5_ifHeld_66 : decode cX5_ifHeld 66 = .ok (.invokevirtual 90, 3) := by decide +kernel
theorem dX5_ifHeld_69 : decode cX5_ifHeld 69 = .ok (.pop, 1) := by decide +kernel
theorem dX5_ifHeld_70 : decode cX5_ifHeld 70 = .ok (.iload_n 2, 1) := by decide +kernel
theorem dX5_ifHeld_71 : decode cX5_ifHeld 71 = .ok (.iconst 2, 1) := by decide +kernel
theorem dX5_ifHeld_72 : decode cX5_ifHeld 72 = .ok (.if_icmp .ge 15, 3) := by decide +kernel
theorem dX5_ifHeld_75 : decode cX5_ifHeld 75 = .ok (.aload_n 0, 1) := by decide +kernel
theorem dX5_ifHeld_76 : decode cX5_ifHeld 76 = .ok (.getfield 41, 3) := by decide +kernel
theorem dX5_ifHeld_79 : decode cX5_ifHeld 79 = .ok (.iload_n 1, 1) := by decide +kernel
theorem dX5_ifHeld_80 : decode cX5_ifHeld 80 = .ok (.sipush 400, 3) := by decide +kernel
theorem dX5_ifHeld_83 : decode cX5_ifHeld 83 = .ok (.invokevirtual 168, 3) := by decide +kernel
theorem dX5_ifHeld_86 : decode cX5_ifHeld 86 = .ok (.ireturn, 1) := by decide +kernel
theorem dX5_ifHeld_87 : decode cX5_ifHeld 87 = .ok (.aload_n 0, 1) := by decide +kernel
theorem dX5_ifHeld_88 : decode cX5_ifHeld 88 = .ok (.getfield 41, 3) := by decide +kernel
theorem dX5_ifHeld_91 : decode cX5_ifHeld 91 = .ok (.sipush 400, 3) := by decide +kernel
theorem dX5_ifHeld_94 : decode cX5_ifHeld 94 = .ok (.iload_n 1, 1) := by decide +kernel
theorem dX5_ifHeld_95 : decode cX5_ifHeld 95 = .ok (.iload_n 1, 1) := by decide +kernel
theorem dX5_ifHeld_96 : decode cX5_ifHeld 96 = .ok (.iconst 1, 1) := by decide +kernel
theorem dX5_ifHeld_97 : decode cX5_ifHeld 97 = .ok (.iadd, 1) := by decide +kernel
theorem dX5_ifHeld_98 : decode cX5_ifHeld 98 = .ok (.invokevirtual 181, 3) := by decide +kernel
theorem dX5_ifHeld_101 : decode cX5_ifHeld 101 = .ok (.pop, 1) := by decide +kernel
theorem dX5_ifHeld_102 : decode cX5_ifHeld 102 = .ok (.aload_n 0, 1) := by decide +kernel
theorem dX5_ifHeld_103 : decode cX5_ifHeld 103 = .ok (.getfield 41, 3) := by decide +kernel
theorem dX5_ifHeld_106 : decode cX5_ifHeld 106 = .ok (.getfield 125, 3) := by decide +kernel
theorem dX5_ifHeld_109 : decode cX5_ifHeld 109 = .ok (.iload_n 1, 1) := by decide +kernel
theorem dX5_ifHeld_110 : decode cX5_ifHeld 110 = .ok (.aaload, 1) := by decide +kernel
theorem dX5_ifHeld_111 : decode cX5_ifHeld 111 = .ok (.getfield 178, 3) := by decide +kernel
theorem dX5_ifHeld_114 : decode cX5_ifHeld 114 = .ok (.iload_n 3, 1) := by decide +kernel
theorem dX5_ifHeld_115 : decode cX5_ifHeld 115 = .ok (.isub, 1) := by decide +kernel
theorem dX5_ifHeld_116 : decode cX5_ifHeld 116 = .ok (.ireturn, 1) := by decide +kernel
theorem dX5_best_0 : decode cX5_best 0 = .ok (.aload_n 0, 1) := by decide +kernel
theorem dX5_best_1 : decode cX5_best 1 = .ok (.getfield 19, 3) := by decide +kernel
theorem dX5_best_4 : decode cX5_best 4 = .ok (.iload_n 2, 1) := by decide +kernel
theorem dX5_best_5 : decode cX5_best 5 = .ok (.invokevirtual 119, 3) := by decide +kernel
theorem dX5_best_8 : decode cX5_best 8 = .ok (.invokestatic 122, 3) := by decide +kernel
theorem dX5_best_11 : decode cX5_best 11 = .ok (.iload_n 1, 1) := by decide +kernel
theorem dX5_best_12 : decode cX5_best 12 = .ok (.iconst 1, 1) := by decide +kernel
theorem dX5_best_13 : decode cX5_best 13 = .ok (.iconst 2, 1) := by decide +kernel
theorem dX5_best_14 : decode cX5_best 14 = .ok (.invokestatic 44, 3) := by decide +kernel
theorem dX5_best_17 : decode cX5_best 17 = .ok (.iconst 2, 1) := by decide +kernel
theorem dX5_best_18 : decode cX5_best 18 = .ok (.invokestatic 48, 3) := by decide +kernel
theorem dX5_best_21 : decode cX5_best 21 = .ok (.iconst (-1), 1) := by decide +kernel
theorem dX5_best_22 : decode cX5_best 22 = .ok (.istore_n 3, 1) := by decide +kernel
theorem dX5_best_23 : decode cX5_best 23 = .ok (.sipush 400, 3) := by decide +kernel
theorem dX5_best_26 : decode cX5_best 26 = .ok (.istore 4, 2) := by decide +kernel
theorem dX5_best_28 : decode cX5_best 28 = .ok (.getstatic 185, 3) := by decide +kernel
theorem dX5_best_31 : decode cX5_best 31 = .ok (.iload_n 1, 1) := by decide +kernel
theorem dX5_best_32 : decode cX5_best 32 = .ok (.iaload, 1) := by decide +kernel
theorem dX5_best_33 : decode cX5_best 33 = .ok (.istore 5, 2) := by decide +kernel
theorem dX5_best_35 : decode cX5_best 35 = .ok (.iload 5, 2) := by decide +kernel
theorem dX5_best_37 : decode cX5_best 37 = .ok (.getstatic 188, 3) := by decide +kernel
theorem dX5_best_40 : decode cX5_best 40 = .ok (.iload_n 1, 1) := by decide +kernel
theorem dX5_best_41 : decode cX5_best 41 = .ok (.iaload, 1) := by decide +kernel
theorem dX5_best_42 : decode cX5_best 42 = .ok (.if_icmp .gt 63, 3) := by decide +kernel
theorem dX5_best_45 : decode cX5_best 45 = .ok (.iload 4, 2) := by decide +kernel
theorem dX5_best_47 : decode cX5_best 47 = .ok (.ifCond .lt 58, 3) := by decide +kernel
theorem dX5_best_50 : decode cX5_best 50 = .ok (.aload_n 0, 1) := by decide +kernel
theorem dX5_best_51 : decode cX5_best 51 = .ok (.getfield 41, 3) := by decide +kernel
theorem dX5_best_54 : decode cX5_best 54 = .ok (.aload_n 0, 1) := by decide +kernel
theorem dX5_best_55 : decode cX5_best 55 = .ok (.getfield 19, 3) := by decide +kernel
theorem dX5_best_58 : decode cX5_best 58 = .ok (.invokevirtual 165, 3) := by decide +kernel
theorem dX5_best_61 : decode cX5_best 61 = .ok (.aload_n 0, 1) := by decide +kernel
theorem dX5_best_62 : decode cX5_best 62 = .ok (.getfield 41, 3) := by decide +kernel
theorem dX5_best_65 : decode cX5_best 65 = .ok (.getfield 149, 3) := by decide +kernel
theorem dX5_best_68 : decode cX5_best 68 = .ok (.iload_n 1, 1) := by decide +kernel
theorem dX5_best_69 : decode cX5_best 69 = .ok (.iload 5, 2) := by decide +kernel
theorem dX5_best_71 : decode cX5_best 71 = .ok (.iastore, 1) := by decide +kernel
theorem dX5_best_72 : decode cX5_best 72 = .ok (.aload_n 0, 1) := by decide +kernel
theorem dX5_best_73 : decode cX5_best 73 = .ok (.getfield 41, 3) := by decide +kernel
theorem dX5_best_76 : decode cX5_best 76 = .ok (.iload_n 2, 1) := by decide +kernel
theorem dX5_best_77 : decode cX5_best 77 = .ok (.iload 4, 2) := by decide +kernel
theorem dX5_best_79 : decode cX5_best 79 = .ok (.invokevirtual 168, 3) := by decide +kernel
theorem dX5_best_82 : decode cX5_best 82 = .ok (.istore 6, 2) := by decide +kernel
theorem dX5_best_84 : decode cX5_best 84 = .ok (.iload 6, 2) := by decide +kernel
theorem dX5_best_86 : decode cX5_best 86 = .ok (.iconst (-1), 1) := by decide +kernel
theorem dX5_best_87 : decode cX5_best 87 = .ok (.if_icmp .eq 12, 3) := by decide +kernel
theorem dX5_best_90 : decode cX5_best 90 = .ok (.iload 5, 2) := by decide +kernel
theorem dX5_best_92 : decode cX5_best 92 = .ok (.istore_n 3, 1) := by decide +kernel
theorem dX5_best_93 : decode cX5_best 93 = .ok (.iload 6, 2) := by decide +kernel
theorem dX5_best_95 : decode cX5_best 95 = .ok (.iconst 1, 1) := by decide +kernel
theorem dX5_best_96 : decode cX5_best 96 = .ok (.isub, 1) := by decide +kernel
theorem dX5_best_97 : decode cX5_best 97 = .ok (.istore 4, 2) := by decide +kernel
theorem dX5_best_99 : decode cX5_best 99 = .ok (.iinc 5 1, 3) := by decide +kernel
theorem dX5_best_102 : decode cX5_best 102 = .ok (.goto (-67), 3) := by decide +kernel
theorem dX5_best_105 : decode cX5_best 105 = .ok (.iload_n 3, 1) := by decide +kernel
theorem dX5_best_106 : decode cX5_best 106 = .ok (.ireturn, 1) := by decide +kernel
theorem dX5_runScript_0 : decode cX5_runScript 0 = .ok (.iload_n 1, 1) := by decide +kernel
theorem dX5_runScript_1 : decode cX5_runScript 1 = .ok (.iconst 1, 1) := by decide +kernel
theorem dX5_runScript_2 : decode cX5_runScript 2 = .ok (.iconst 3, 1) := by decide +kernel
theorem dX5_runScript_3 : decode cX5_runScript 3 = .ok (.invokestatic 44, 3) := by decide +kernel
theorem dX5_runScript_6 : decode cX5_runScript 6 = .ok (.iconst 2, 1) := by decide +kernel
theorem dX5_runScript_7 : decode cX5_runScript 7 = .ok (.invokestatic 48, 3) := by decide +kernel
theorem dX5_runScript_10 : decode cX5_runScript 10 = .ok (.lconst 1, 1) := by decide +kernel
theorem dX5_runScript_11 : decode cX5_runScript 11 = .ok (.lstore 4, 2) := by decide +kernel
theorem dX5_runScript_13 : decode cX5_runScript 13 = .ok (.iconst 1, 1) := by decide +kernel
theorem dX5_runScript_14 : decode cX5_runScript 14 = .ok (.istore 6, 2) := by decide +kernel
theorem dX5_runScript_16 : decode cX5_runScript 16 = .ok (.iload 6, 2) := by decide +kernel
theorem dX5_runScript_18 : decode cX5_runScript 18 = .ok (.iload_n 1, 1) := by decide +kernel
theorem dX5_runScript_19 : decode cX5_runScript 19 = .ok (.if_icmp .ge 17, 3) := by decide +kernel
theorem dX5_runScript_22 : decode cX5_runScript 22 = .ok (.lload 4, 2) := by decide +kernel
theorem dX5_runScript_24 : decode cX5_runScript 24 = .ok (.ldc2_w 191, 3) := by decide +kernel
theorem dX5_runScript_27 : decode cX5_runScript 27 = .ok (.lmul, 1) := by decide +kernel
theorem dX5_runScript_28 : decode cX5_runScript 28 = .ok (.lstore 4, 2) := by decide +kernel
theorem dX5_runScript_30 : decode cX5_runScript 30 = .ok (.iinc 6 1, 3) := by decide +kernel
theorem dX5_runScript_33 : decode cX5_runScript 33 = .ok (.goto (-17), 3) := by decide +kernel
theorem dX5_runScript_36 : decode cX5_runScript 36 = .ok (.lload_n 2, 1) := by decide +kernel
theorem dX5_runScript_37 : decode cX5_runScript 37 = .ok (.lconst 0, 1) := by decide +kernel
theorem dX5_runScript_38 : decode cX5_runScript 38 = .ok (.lcmp, 1) := by decide +kernel
theorem dX5_runScript_39 : decode cX5_runScript 39 = .ok (.ifCond .lt 18, 3) := by decide +kernel
theorem dX5_runScript_42 : decode cX5_runScript 42 = .ok (.lload_n 2, 1) := by decide +kernel
theorem dX5_runScript_43 : decode cX5_runScript 43 = .ok (.lload 4, 2) := by decide +kernel
theorem dX5_runScript_45 : decode cX5_runScript 45 = .ok (.ldc2_w 191, 3) := by decide +kernel
theorem dX5_runScript_48 : decode cX5_runScript 48 = .ok (.lmul, 1) := by decide +kernel
theorem dX5_runScript_49 : decode cX5_runScript 49 = .ok (.lcmp, 1) := by decide +kernel
theorem dX5_runScript_50 : decode cX5_runScript 50 = .ok (.ifCond .ge 7, 3) := by decide +kernel
theorem dX5_runScript_53 : decode cX5_runScript 53 = .ok (.iconst 1, 1) := by decide +kernel
theorem dX5_runScript_54 : decode cX5_runScript 54 = .ok (.goto 4, 3) := by decide +kernel
theorem dX5_runScript_57 : decode cX5_runScript 57 = .ok (.iconst 0, 1) := by decide +kernel
theorem dX5_runScript_58 : decode cX5_runScript 58 = .ok (.iconst 2, 1) := by decide +kernel
theorem dX5_runScript_59 : decode cX5_runScript 59 = .ok (.invokestatic 48, 3) := by decide +kernel
theorem dX5_runScript_62 : decode cX5_runScript 62 = .ok (.aload_n 0, 1) := by decide +kernel
theorem dX5_runScript_63 : decode cX5_runScript 63 = .ok (.getfield 38, 3) := by decide +kernel
theorem dX5_runScript_66 : decode cX5_runScript 66 = .ok (.aload_n 0, 1) := by decide +kernel
theorem dX5_runScript_67 : decode cX5_runScript 67 = .ok (.getfield 19, 3) := by decide +kernel
theorem dX5_runScript_70 : decode cX5_runScript 70 = .ok (.invokevirtual 165, 3) := by decide +kernel
theorem dX5_runScript_73 : decode cX5_runScript 73 = .ok (.iconst 0, 1) := by decide +kernel
theorem dX5_runScript_74 : decode cX5_runScript 74 = .ok (.istore 6, 2) := by decide +kernel
theorem dX5_runScript_76 : decode cX5_runScript 76 = .ok (.iload 6, 2) := by decide +kernel
theorem dX5_runScript_78 : decode cX5_runScript 78 = .ok (.iload_n 1, 1) := by decide +kernel
theorem dX5_runScript_79 : decode cX5_runScript 79 = .ok (.if_icmp .ge 43, 3) := by decide +kernel
theorem dX5_runScript_82 : decode cX5_runScript 82 = .ok (.lload 4, 2) := by decide +kernel
theorem dX5_runScript_84 : decode cX5_runScript 84 = .ok (.lconst 0, 1) := by decide +kernel
theorem dX5_runScript_85 : decode cX5_runScript 85 = .ok (.lcmp, 1) := by decide +kernel
theorem dX5_runScript_86 : decode cX5_runScript 86 = .ok (.ifCond .le 36, 3) := by decide +kernel
theorem dX5_runScript_89 : decode cX5_runScript 89 = .ok (.aload_n 0, 1) := by decide +kernel
theorem dX5_runScript_90 : decode cX5_runScript 90 = .ok (.lload_n 2, 1) := by decide +kernel
theorem dX5_runScript_91 : decode cX5_runScript 91 = .ok (.lload 4, 2) := by decide +kernel
theorem dX5_runScript_93 : decode cX5_runScript 93 = .ok (.ldiv, 1) := by decide +kernel
theorem dX5_runScript_94 : decode cX5_runScript 94 = .ok (.ldc2_w 191, 3) := by decide +kernel
theorem dX5_runScript_97 : decode cX5_runScript 97 = .ok (.lrem, 1) := by decide +kernel
theorem dX5_runScript_98 : decode cX5_runScript 98 = .ok (.l2i, 1) := by decide +kernel
theorem dX5_runScript_99 : decode cX5_runScript 99 = .ok (.invokevirtual 193, 3) := by decide +kernel
theorem dX5_runScript_102 : decode cX5_runScript 102 = .ok (.ifCond .ne 6, 3) := by decide +kernel
theorem dX5_runScript_105 : decode cX5_runScript 105 = .ok (.iload 6, 2) := by decide +kernel
theorem dX5_runScript_107 : decode cX5_runScript 107 = .ok (.ireturn, 1) := by decide +kernel
theorem dX5_runScript_108 : decode cX5_runScript 108 = .ok (.lload 4, 2) := by decide +kernel
theorem dX5_runScript_110 : decode cX5_runScript 110 = .ok (.ldc2_w 191, 3) := by decide +kernel
theorem dX5_runScript_113 : decode cX5_runScript 113 = .ok (.ldiv, 1) := by decide +kernel
theorem dX5_runScript_114 : decode cX5_runScript 114 = .ok (.lstore 4, 2) := by decide +kernel
theorem dX5_runScript_116 : decode cX5_runScript 116 = .ok (.iinc 6 1, 3) := by decide +kernel
theorem dX5_runScript_119 : decode cX5_runScript 119 = .ok (.goto (-43), 3) := by decide +kernel
theorem dX5_runScript_122 : decode cX5_runScript 122 = .ok (.iconst (-1), 1) := by decide +kernel
theorem dX5_runScript_123 : decode cX5_runScript 123 = .ok (.ireturn, 1) := by decide +kernel
theorem dX5_simulate_0 : decode cX5_simulate 0 = .ok (.iload_n 3, 1) := by decide +kernel
theorem dX5_simulate_1 : decode cX5_simulate 1 = .ok (.iconst 1, 1) := by decide +kernel
theorem dX5_simulate_2 : decode cX5_simulate 2 = .ok (.bipush 60, 2) := by decide +kernel
theorem dX5_simulate_4 : decode cX5_simulate 4 = .ok (.invokestatic 44, 3) := by decide +kernel
theorem dX5_simulate_7 : decode cX5_simulate 7 = .ok (.iconst 2, 1) := by decide +kernel
theorem dX5_simulate_8 : decode cX5_simulate 8 = .ok (.invokestatic 48, 3) := by decide +kernel
theorem dX5_simulate_11 : decode cX5_simulate 11 = .ok (.aload_n 0, 1) := by decide +kernel
theorem dX5_simulate_12 : decode cX5_simulate 12 = .ok (.getfield 38, 3) := by decide +kernel
theorem dX5_simulate_15 : decode cX5_simulate 15 = .ok (.aload_n 0, 1) := by decide +kernel
theorem dX5_simulate_16 : decode cX5_simulate 16 = .ok (.getfield 19, 3) := by decide +kernel
theorem dX5_simulate_19 : decode cX5_simulate 19 = .ok (.invokevirtual 165, 3) := by decide +kernel
theorem dX5_simulate_22 : decode cX5_simulate 22 = .ok (.lload_n 1, 1) := by decide +kernel
theorem dX5_simulate_23 : decode cX5_simulate 23 = .ok (.lstore 4, 2) := by decide +kernel
theorem dX5_simulate_25 : decode cX5_simulate 25 = .ok (.iconst 0, 1) := by decide +kernel
theorem dX5_simulate_26 : decode cX5_simulate 26 = .ok (.istore 6, 2) := by decide +kernel
theorem dX5_simulate_28 : decode cX5_simulate 28 = .ok (.iload 6, 2) := by decide +kernel
theorem dX5_simulate_30 : decode cX5_simulate 30 = .ok (.iload_n 3, 1) := by decide +kernel
theorem dX5_simulate_31 : decode cX5_simulate 31 = .ok (.if_icmp .ge 31, 3) := by decide +kernel
theorem dX5_simulate_34 : decode cX5_simulate 34 = .ok (.lload 4, 2) := by decide +kernel
theorem dX5_simulate_36 : decode cX5_simulate 36 = .ok (.ldc2_w 197, 3) := by decide +kernel
theorem dX5_simulate_39 : decode cX5_simulate 39 = .ok (.lmul, 1) := by decide +kernel
theorem dX5_simulate_40 : decode cX5_simulate 40 = .ok (.ldc2_w 199, 3) := by decide +kernel
theorem dX5_simulate_43 : decode cX5_simulate 43 = .ok (.ladd, 1) := by decide +kernel
theorem dX5_simulate_44 : decode cX5_simulate 44 = .ok (.lstore 4, 2) := by decide +kernel
theorem dX5_simulate_46 : decode cX5_simulate 46 = .ok (.aload_n 0, 1) := by decide +kernel
theorem dX5_simulate_47 : decode cX5_simulate 47 = .ok (.lload 4, 2) := by decide +kernel
theorem dX5_simulate_49 : decode cX5_simulate 49 = .ok (.bipush 33, 2) := by decide +kernel
theorem dX5_simulate_51 : decode cX5_simulate 51 = .ok (.lushr, 1) := by decide +kernel
theorem dX5_simulate_52 : decode cX5_simulate 52 = .ok (.l2i, 1) := by decide +kernel
theorem dX5_simulate_53 : decode cX5_simulate 53 = .ok (.invokevirtual 201, 3) := by decide +kernel
theorem dX5_simulate_56 : decode cX5_simulate 56 = .ok (.iinc 6 1, 3) := by decide +kernel
theorem dX5_simulate_59 : decode cX5_simulate 59 = .ok (.goto (-31), 3) := by decide +kernel
theorem dX5_simulate_62 : decode cX5_simulate 62 = .ok (.aload_n 0, 1) := by decide +kernel
theorem dX5_simulate_63 : decode cX5_simulate 63 = .ok (.getfield 38, 3) := by decide +kernel
theorem dX5_simulate_66 : decode cX5_simulate 66 = .ok (.iconst 4, 1) := by decide +kernel
theorem dX5_simulate_67 : decode cX5_simulate 67 = .ok (.invokevirtual 112, 3) := by decide +kernel
theorem dX5_simulate_70 : decode cX5_simulate 70 = .ok (.aload_n 0, 1) := by decide +kernel
theorem dX5_simulate_71 : decode cX5_simulate 71 = .ok (.getfield 19, 3) := by decide +kernel
theorem dX5_simulate_74 : decode cX5_simulate 74 = .ok (.iconst 4, 1) := by decide +kernel
theorem dX5_simulate_75 : decode cX5_simulate 75 = .ok (.invokevirtual 112, 3) := by decide +kernel
theorem dX5_simulate_78 : decode cX5_simulate 78 = .ok (.isub, 1) := by decide +kernel
theorem dX5_simulate_79 : decode cX5_simulate 79 = .ok (.istore 6, 2) := by decide +kernel
theorem dX5_simulate_81 : decode cX5_simulate 81 = .ok (.aload_n 0, 1) := by decide +kernel
theorem dX5_simulate_82 : decode cX5_simulate 82 = .ok (.getfield 38, 3) := by decide +kernel
theorem dX5_simulate_85 : decode cX5_simulate 85 = .ok (.iconst 5, 1) := by decide +kernel
theorem dX5_simulate_86 : decode cX5_simulate 86 = .ok (.invokevirtual 112, 3) := by decide +kernel
theorem dX5_simulate_89 : decode cX5_simulate 89 = .ok (.aload_n 0, 1) := by decide +kernel
theorem dX5_simulate_90 : decode cX5_simulate 90 = .ok (.getfield 19, 3) := by decide +kernel
theorem dX5_simulate_93 : decode cX5_simulate 93 = .ok (.iconst 5, 1) := by decide +kernel
theorem dX5_simulate_94 : decode cX5_simulate 94 = .ok (.invokevirtual 112, 3) := by decide +kernel
theorem dX5_simulate_97 : decode cX5_simulate 97 = .ok (.isub, 1) := by decide +kernel
theorem dX5_simulate_98 : decode cX5_simulate 98 = .ok (.istore 7, 2) := by decide +kernel
theorem dX5_simulate_100 : decode cX5_simulate 100 = .ok (.sipush 10000, 3) := by decide +kernel
theorem dX5_simulate_103 : decode cX5_simulate 103 = .ok (.iload 6, 2) := by decide +kernel
theorem dX5_simulate_105 : decode cX5_simulate 105 = .ok (.sipush 999, 3) := by decide +kernel
theorem dX5_simulate_108 : decode cX5_simulate 108 = .ok (.invokestatic 204, 3) := by decide +kernel
theorem dX5_simulate_111 : decode cX5_simulate 111 = .ok (.imul, 1) := by decide +kernel
theorem dX5_simulate_112 : decode cX5_simulate 112 = .ok (.iload 7, 2) := by decide +kernel
theorem dX5_simulate_114 : decode cX5_simulate 114 = .ok (.sipush 9999, 3) := by decide +kernel
theorem dX5_simulate_117 : decode cX5_simulate 117 = .ok (.invokestatic 204, 3) := by decide +kernel
theorem dX5_simulate_120 : decode cX5_simulate 120 = .ok (.iadd, 1) := by decide +kernel
theorem dX5_simulate_121 : decode cX5_simulate 121 = .ok (.ireturn, 1) := by decide +kernel
theorem dX5_save_0 : decode cX5_save 0 = .ok (.iload_n 1, 1) := by decide +kernel
theorem dX5_save_1 : decode cX5_save 1 = .ok (.iconst 0, 1) := by decide +kernel
theorem dX5_save_2 : decode cX5_save 2 = .ok (.iconst 1, 1) := by decide +kernel
theorem dX5_save_3 : decode cX5_save 3 = .ok (.invokestatic 44, 3) := by decide +kernel
theorem dX5_save_6 : decode cX5_save 6 = .ok (.iconst 1, 1) := by decide +kernel
theorem dX5_save_7 : decode cX5_save 7 = .ok (.invokestatic 48, 3) := by decide +kernel
theorem dX5_save_10 : decode cX5_save 10 = .ok (.aload_n 0, 1) := by decide +kernel
theorem dX5_save_11 : decode cX5_save 11 = .ok (.getfield 30, 3) := by decide +kernel
theorem dX5_save_14 : decode cX5_save 14 = .ok (.iload_n 1, 1) := by decide +kernel
theorem dX5_save_15 : decode cX5_save 15 = .ok (.aaload, 1) := by decide +kernel
theorem dX5_save_16 : decode cX5_save 16 = .ok (.aload_n 0, 1) := by decide +kernel
theorem dX5_save_17 : decode cX5_save 17 = .ok (.getfield 19, 3) := by decide +kernel
theorem dX5_save_20 : decode cX5_save 20 = .ok (.invokevirtual 165, 3) := by decide +kernel
theorem dX5_save_23 : decode cX5_save 23 = .ok (.aload_n 0, 1) := by decide +kernel
theorem dX5_save_24 : decode cX5_save 24 = .ok (.getfield 34, 3) := by decide +kernel
theorem dX5_save_27 : decode cX5_save 27 = .ok (.iload_n 1, 1) := by decide +kernel
theorem dX5_save_28 : decode cX5_save 28 = .ok (.iconst 1, 1) := by decide +kernel
theorem dX5_save_29 : decode cX5_save 29 = .ok (.bastore, 1) := by decide +kernel
theorem dX5_save_30 : decode cX5_save 30 = .ok (.aload_n 0, 1) := by decide +kernel
theorem dX5_save_31 : decode cX5_save 31 = .ok (.getfield 19, 3) := by decide +kernel
theorem dX5_save_34 : decode cX5_save 34 = .ok (.getfield 100, 3) := by decide +kernel
theorem dX5_save_37 : decode cX5_save 37 = .ok (.ireturn, 1) := by decide +kernel
theorem dX5_restore_0 : decode cX5_restore 0 = .ok (.iload_n 1, 1) := by decide +kernel
theorem dX5_restore_1 : decode cX5_restore 1 = .ok (.iconst 0, 1) := by decide +kernel
theorem dX5_restore_2 : decode cX5_restore 2 = .ok (.iconst 1, 1) := by decide +kernel
theorem dX5_restore_3 : decode cX5_restore 3 = .ok (.invokestatic 44, 3) := by decide +kernel
theorem dX5_restore_6 : decode cX5_restore 6 = .ok (.iconst 1, 1) := by decide +kernel
theorem dX5_restore_7 : decode cX5_restore 7 = .ok (.invokestatic 48, 3) := by decide +kernel
theorem dX5_restore_10 : decode cX5_restore 10 = .ok (.aload_n 0, 1) := by decide +kernel
theorem dX5_restore_11 : decode cX5_restore 11 = .ok (.getfield 34, 3) := by decide +kernel
theorem dX5_restore_14 : decode cX5_restore 14 = .ok (.iload_n 1, 1) := by decide +kernel
theorem dX5_restore_15 : decode cX5_restore 15 = .ok (.baload, 1) := by decide +kernel
theorem dX5_restore_16 : decode cX5_restore 16 = .ok (.iconst 3, 1) := by decide +kernel
theorem dX5_restore_17 : decode cX5_restore 17 = .ok (.invokestatic 48, 3) := by decide +kernel
theorem dX5_restore_20 : decode cX5_restore 20 = .ok (.aload_n 0, 1) := by decide +kernel
theorem dX5_restore_21 : decode cX5_restore 21 = .ok (.getfield 19, 3) := by decide +kernel
theorem dX5_restore_24 : decode cX5_restore 24 = .ok (.aload_n 0, 1) := by decide +kernel
theorem dX5_restore_25 : decode cX5_restore 25 = .ok (.getfield 30, 3) := by decide +kernel
theorem dX5_restore_28 : decode cX5_restore 28 = .ok (.iload_n 1, 1) := by decide +kernel
theorem dX5_restore_29 : decode cX5_restore 29 = .ok (.aaload, 1) := by decide +kernel
theorem dX5_restore_30 : decode cX5_restore 30 = .ok (.invokevirtual 165, 3) := by decide +kernel
theorem dX5_restore_33 : decode cX5_restore 33 = .ok (.aload_n 0, 1) := by decide +kernel
theorem dX5_restore_34 : decode cX5_restore 34 = .ok (.getfield 26, 3) := by decide +kernel
theorem dX5_restore_37 : decode cX5_restore 37 = .ok (.invokevirtual 94, 3) := by decide +kernel
theorem dX5_restore_40 : decode cX5_restore 40 = .ok (.aload_n 0, 1) := by decide +kernel
theorem dX5_restore_41 : decode cX5_restore 41 = .ok (.getfield 19, 3) := by decide +kernel
theorem dX5_restore_44 : decode cX5_restore 44 = .ok (.getfield 100, 3) := by decide +kernel
theorem dX5_restore_47 : decode cX5_restore 47 = .ok (.ireturn, 1) := by decide +kernel
theorem dX5_isWithin_0 : decode cX5_isWithin 0 = .ok (.iload_n 0, 1) := by decide +kernel
theorem dX5_isWithin_1 : decode cX5_isWithin 1 = .ok (.iload_n 1, 1) := by decide +kernel
theorem dX5_isWithin_2 : decode cX5_isWithin 2 = .ok (.if_icmp .lt 12, 3) := by decide +kernel
theorem dX5_isWithin_5 : decode cX5_isWithin 5 = .ok (.iload_n 0, 1) := by decide +kernel
theorem dX5_isWithin_6 : decode cX5_isWithin 6 = .ok (.iload_n 2, 1) := by decide +kernel
theorem dX5_isWithin_7 : decode cX5_isWithin 7 = .ok (.if_icmp .gt 7, 3) := by decide +kernel
theorem dX5_isWithin_10 : decode cX5_isWithin 10 = .ok (.iconst 1, 1) := by decide +kernel
theorem dX5_isWithin_11 : decode cX5_isWithin 11 = .ok (.goto 4, 3) := by decide +kernel
theorem dX5_isWithin_14 : decode cX5_isWithin 14 = .ok (.iconst 0, 1) := by decide +kernel
theorem dX5_isWithin_15 : decode cX5_isWithin 15 = .ok (.ireturn, 1) := by decide +kernel
theorem dX5_demand_0 : decode cX5_demand 0 = .ok (.iload_n 0, 1) := by decide +kernel
theorem dX5_demand_1 : decode cX5_demand 1 = .ok (.ifCond .ne 7, 3) := by decide +kernel
theorem dX5_demand_4 : decode cX5_demand 4 = .ok (.iload_n 1, 1) := by decide +kernel
theorem dX5_demand_5 : decode cX5_demand 5 = .ok (.invokestatic 122, 3) := by decide +kernel
theorem dX5_demand_8 : decode cX5_demand 8 = .ok (.return_, 1) := by decide +kernel
theorem dX5_refuse_0 : decode cX5_refuse 0 = .ok (.iload_n 0, 1) := by decide +kernel
theorem dX5_refuse_1 : decode cX5_refuse 1 = .ok (.tableswitch 51 1 3 #[27, 35, 43], 27) := by decide +kernel
theorem dX5_refuse_28 : decode cX5_refuse 28 = .ok (.new 209, 3) := by decide +kernel
theorem dX5_refuse_31 : decode cX5_refuse 31 = .ok (.dup, 1) := by decide +kernel
theorem dX5_refuse_32 : decode cX5_refuse 32 = .ok (.invokespecial 211, 3) := by decide +kernel
theorem dX5_refuse_35 : decode cX5_refuse 35 = .ok (.athrow, 1) := by decide +kernel
theorem dX5_refuse_36 : decode cX5_refuse 36 = .ok (.new 212, 3) := by decide +kernel
theorem dX5_refuse_39 : decode cX5_refuse 39 = .ok (.dup, 1) := by decide +kernel
theorem dX5_refuse_40 : decode cX5_refuse 40 = .ok (.invokespecial 214, 3) := by decide +kernel
theorem dX5_refuse_43 : decode cX5_refuse 43 = .ok (.athrow, 1) := by decide +kernel
theorem dX5_refuse_44 : decode cX5_refuse 44 = .ok (.new 215, 3) := by decide +kernel
theorem dX5_refuse_47 : decode cX5_refuse 47 = .ok (.dup, 1) := by decide +kernel
theorem dX5_refuse_48 : decode cX5_refuse 48 = .ok (.invokespecial 217, 3) := by decide +kernel
theorem dX5_refuse_51 : decode cX5_refuse 51 = .ok (.athrow, 1) := by decide +kernel
theorem dX5_refuse_52 : decode cX5_refuse 52 = .ok (.return_, 1) := by decide +kernel
theorem dX5_act_0 : decode cX5_act 0 = .ok (.aload_n 0, 1) := by decide +kernel
theorem dX5_act_1 : decode cX5_act 1 = .ok (.getfield 19, 3) := by decide +kernel
theorem dX5_act_4 : decode cX5_act 4 = .ok (.iload_n 1, 1) := by decide +kernel
theorem dX5_act_5 : decode cX5_act 5 = .ok (.iload_n 2, 1) := by decide +kernel
theorem dX5_act_6 : decode cX5_act 6 = .ok (.iload_n 3, 1) := by decide +kernel
theorem dX5_act_7 : decode cX5_act 7 = .ok (.iload 4, 2) := by decide +kernel
theorem dX5_act_9 : decode cX5_act 9 = .ok (.invokevirtual 156, 3) := by decide +kernel
theorem dX5_act_12 : decode cX5_act 12 = .ok (.invokestatic 122, 3) := by decide +kernel
theorem dX5_act_15 : decode cX5_act 15 = .ok (.aload_n 0, 1) := by decide +kernel
theorem dX5_act_16 : decode cX5_act 16 = .ok (.getfield 26, 3) := by decide +kernel
theorem dX5_act_19 : decode cX5_act 19 = .ok (.aload_n 0, 1) := by decide +kernel
theorem dX5_act_20 : decode cX5_act 20 = .ok (.getfield 19, 3) := by decide +kernel
theorem dX5_act_23 : decode cX5_act 23 = .ok (.invokevirtual 218, 3) := by decide +kernel
theorem dX5_act_26 : decode cX5_act 26 = .ok (.aload_n 0, 1) := by decide +kernel
theorem dX5_act_27 : decode cX5_act 27 = .ok (.getfield 19, 3) := by decide +kernel
theorem dX5_act_30 : decode cX5_act 30 = .ok (.iload_n 1, 1) := by decide +kernel
theorem dX5_act_31 : decode cX5_act 31 = .ok (.iload_n 2, 1) := by decide +kernel
theorem dX5_act_32 : decode cX5_act 32 = .ok (.iload_n 3, 1) := by decide +kernel
theorem dX5_act_33 : decode cX5_act 33 = .ok (.iload 4, 2) := by decide +kernel
theorem dX5_act_35 : decode cX5_act 35 = .ok (.invokevirtual 90, 3) := by decide +kernel
theorem dX5_act_38 : decode cX5_act 38 = .ok (.ireturn, 1) := by decide +kernel
theorem dX5_doesCommand_0 : decode cX5_doesCommand 0 = .ok (.iload_n 1, 1) := by decide +kernel
theorem dX5_doesCommand_1 : decode cX5_doesCommand 1 = .ok (.sipush 1000, 3) := by decide +kernel
theorem dX5_doesCommand_4 : decode cX5_doesCommand 4 = .ok (.idiv, 1) := by decide +kernel
theorem dX5_doesCommand_5 : decode cX5_doesCommand 5 = .ok (.bipush 10, 2) := by decide +kernel
theorem dX5_doesCommand_7 : decode cX5_doesCommand 7 = .ok (.irem, 1) := by decide +kernel
theorem dX5_doesCommand_8 : decode cX5_doesCommand 8 = .ok (.istore_n 2, 1) := by decide +kernel
theorem dX5_doesCommand_9 : decode cX5_doesCommand 9 = .ok (.iload_n 1, 1) := by decide +kernel
theorem dX5_doesCommand_10 : decode cX5_doesCommand 10 = .ok (.sipush 1000, 3) := by decide +kernel
theorem dX5_doesCommand_13 : decode cX5_doesCommand 13 = .ok (.irem, 1) := by decide +kernel
theorem dX5_doesCommand_14 : decode cX5_doesCommand 14 = .ok (.istore_n 3, 1) := by decide +kernel
theorem dX5_doesCommand_15 : decode cX5_doesCommand 15 = .ok (.iload_n 1, 1) := by decide +kernel
theorem dX5_doesCommand_16 : decode cX5_doesCommand 16 = .ok (.bipush 100, 2) := by decide +kernel
theorem dX5_doesCommand_18 : decode cX5_doesCommand 18 = .ok (.irem, 1) := by decide +kernel
theorem dX5_doesCommand_19 : decode cX5_doesCommand 19 = .ok (.istore 4, 2) := by decide +kernel
theorem dX5_doesCommand_21 : decode cX5_doesCommand 21 = .ok (.iload_n 3, 1) := by decide +kernel
theorem dX5_doesCommand_22 : decode cX5_doesCommand 22 = .ok (.bipush 100, 2) := by decide +kernel
theorem dX5_doesCommand_24 : decode cX5_doesCommand 24 = .ok (.if_icmp .ge 7, 3) := by decide +kernel
theorem dX5_doesCommand_27 : decode cX5_doesCommand 27 = .ok (.iconst 1, 1) := by decide +kernel
theorem dX5_doesCommand_28 : decode cX5_doesCommand 28 = .ok (.goto 4, 3) := by decide +kernel
theorem dX5_doesCommand_31 : decode cX5_doesCommand 31 = .ok (.iconst 0, 1) := by decide +kernel
theorem dX5_doesCommand_32 : decode cX5_doesCommand 32 = .ok (.istore 5, 2) := by decide +kernel
theorem dX5_doesCommand_34 : decode cX5_doesCommand 34 = .ok (.iload 5, 2) := by decide +kernel
theorem dX5_doesCommand_36 : decode cX5_doesCommand 36 = .ok (.ifCond .eq 11, 3) := by decide +kernel
theorem dX5_doesCommand_39 : decode cX5_doesCommand 39 = .ok (.iload_n 2, 1) := by decide +kernel
theorem dX5_doesCommand_40 : decode cX5_doesCommand 40 = .ok (.ifCond .ne 7, 3) := by decide +kernel
theorem dX5_doesCommand_43 : decode cX5_doesCommand 43 = .ok (.iconst 1, 1) := by decide +kernel
theorem dX5_doesCommand_44 : decode cX5_doesCommand 44 = .ok (.goto 4, 3) := by decide +kernel
theorem dX5_doesCommand_47 : decode cX5_doesCommand 47 = .ok (.iconst 0, 1) := by decide +kernel
theorem dX5_doesCommand_48 : decode cX5_doesCommand 48 = .ok (.istore 6, 2) := by decide +kernel
theorem dX5_doesCommand_50 : decode cX5_doesCommand 50 = .ok (.aload_n 0, 1) := by decide +kernel
theorem dX5_doesCommand_51 : decode cX5_doesCommand 51 = .ok (.getfield 38, 3) := by decide +kernel
theorem dX5_doesCommand_54 : decode cX5_doesCommand 54 = .ok (.iload_n 2, 1) := by decide +kernel
theorem dX5_doesCommand_55 : decode cX5_doesCommand 55 = .ok (.invokevirtual 119, 3) := by decide +kernel
theorem dX5_doesCommand_58 : decode cX5_doesCommand 58 = .ok (.ifCond .ne 7, 3) := by decide +kernel
theorem dX5_doesCommand_61 : decode cX5_doesCommand 61 = .ok (.iconst 1, 1) := by decide +kernel
theorem dX5_doesCommand_62 : decode cX5_doesCommand 62 = .ok (.goto 4, 3) := by decide +kernel
theorem dX5_doesCommand_65 : decode cX5_doesCommand 65 = .ok (.iconst 0, 1) := by decide +kernel
theorem dX5_doesCommand_66 : decode cX5_doesCommand 66 = .ok (.istore 7, 2) := by decide +kernel
theorem dX5_doesCommand_68 : decode cX5_doesCommand 68 = .ok (.iload_n 1, 1) := by decide +kernel
theorem dX5_doesCommand_69 : decode cX5_doesCommand 69 = .ok (.sipush 10000, 3) := by decide +kernel
theorem dX5_doesCommand_72 : decode cX5_doesCommand 72 = .ok (.idiv, 1) := by decide +kernel
theorem dX5_doesCommand_73 : decode cX5_doesCommand 73 = .ok (.tableswitch 306 1 9 #[51, 72, 99, 125, 150, 178, 214, 241, 282], 51) := by decide +kernel
theorem dX5_doesCommand_124 : decode cX5_doesCommand 124 = .ok (.aload_n 0, 1) := by decide +kernel
theorem dX5_doesCommand_125 : decode cX5_doesCommand 125 = .ok (.getfield 38, 3) := by decide +kernel
theorem dX5_doesCommand_128 : decode cX5_doesCommand 128 = .ok (.iconst 1, 1) := by decide +kernel
theorem dX5_doesCommand_129 : decode cX5_doesCommand 129 = .ok (.iload_n 2, 1) := by decide +kernel
theorem dX5_doesCommand_130 : decode cX5_doesCommand 130 = .ok (.iload_n 3, 1) := by decide +kernel
theorem dX5_doesCommand_131 : decode cX5_doesCommand 131 = .ok (.iconst 0, 1) := by decide +kernel
theorem dX5_doesCommand_132 : decode cX5_doesCommand 132 = .ok (.invokevirtual 90, 3) := by decide +kernel
theorem dX5_doesCommand_135 : decode cX5_doesCommand 135 = .ok (.iconst (-1), 1) := by decide +kernel
theorem dX5_doesCommand_136 : decode cX5_doesCommand 136 = .ok (.if_icmp .eq 7, 3) := by decide +kernel
theorem dX5_doesCommand_139 : decode cX5_doesCommand 139 = .ok (.iconst 1, 1) := by decide +kernel
theorem dX5_doesCommand_140 : decode cX5_doesCommand 140 = .ok (.goto 4, 3) := by decide +kernel
theorem dX5_doesCommand_143 : decode cX5_doesCommand 143 = .ok (.iconst 0, 1) := by decide +kernel
theorem dX5_doesCommand_144 : decode cX5_doesCommand 144 = .ok (.ireturn, 1) := by decide +kernel
theorem dX5_doesCommand_145 : decode cX5_doesCommand 145 = .ok (.iload 6, 2) := by decide +kernel
theorem dX5_doesCommand_147 : decode cX5_doesCommand 147 = .ok (.ifCond .eq 23, 3) := by decide +kernel
theorem dX5_doesCommand_150 : decode cX5_doesCommand 150 = .ok (.aload_n 0, 1) := by decide +kernel
theorem dX5_doesCommand_151 : decode cX5_doesCommand 151 = .ok (.getfield 38, 3) := by decide +kernel
theorem dX5_doesCommand_154 : decode cX5_doesCommand 154 = .ok (.iconst 5, 1) := by decide +kernel
theorem dX5_doesCommand_155 : decode cX5_doesCommand 155 = .ok (.iload 4, 2) := by decide +kernel
theorem dX5_doesCommand_157 : decode cX5_doesCommand 157 = .ok (.iconst 0, 1) := by decide +kernel
theorem dX5_doesCommand_158 : decode cX5_doesCommand 158 = .ok (.iconst 0, 1) := by decide +kernel
theorem dX5_doesCommand_159 : decode cX5_doesCommand 159 = .ok (.invokevirtual 90, 3) := by decide +kernel
theorem dX5_doesCommand_162 : decode cX5_doesCommand 162 = .ok (.iconst (-1), 1) := by decide +kernel
theorem dX5_doesCommand_163 : decode cX5_doesCommand 163 = .ok (.if_icmp .eq 7, 3) := by decide +kernel
theorem dX5_doesCommand_166 : decode cX5_doesCommand 166 = .ok (.iconst 1, 1) := by decide +kernel
theorem dX5_doesCommand_167 : decode cX5_doesCommand 167 = .ok (.goto 4, 3) := by decide +kernel
theorem dX5_doesCommand_170 : decode cX5_doesCommand 170 = .ok (.iconst 0, 1) := by decide +kernel
theorem dX5_doesCommand_171 : decode cX5_doesCommand 171 = .ok (.ireturn, 1) := by decide +kernel
theorem dX5_doesCommand_172 : decode cX5_doesCommand 172 = .ok (.iload_n 3, 1) := by decide +kernel
theorem dX5_doesCommand_173 : decode cX5_doesCommand 173 = .ok (.iconst 1, 1) := by decide +kernel
theorem dX5_doesCommand_174 : decode cX5_doesCommand 174 = .ok (.if_icmp .gt 22, 3) := by decide +kernel
theorem dX5_doesCommand_177 : decode cX5_doesCommand 177 = .ok (.aload_n 0, 1) := by decide +kernel
theorem dX5_doesCommand_178 : decode cX5_doesCommand 178 = .ok (.getfield 38, 3) := by decide +kernel
theorem dX5_doesCommand_181 : decode cX5_doesCommand 181 = .ok (.iconst 3, 1) := by decide +kernel
theorem dX5_doesCommand_182 : decode cX5_doesCommand 182 = .ok (.iload_n 2, 1) := by decide +kernel
theorem dX5_doesCommand_183 : decode cX5_doesCommand 183 = .ok (.iload_n 3, 1) := by decide +kernel
theorem dX5_doesCommand_184 : decode cX5_doesCommand 184 = .ok (.iconst 0, 1) := by decide +kernel
theorem dX5_doesCommand_185 : decode cX5_doesCommand 185 = .ok (.invokevirtual 90, 3) := by decide +kernel
theorem dX5_doesCommand_188 : decode cX5_doesCommand 188 = .ok (.iconst (-1), 1) := by decide +kernel
theorem dX5_doesCommand_189 : decode cX5_doesCommand 189 = .ok (.if_icmp .eq 7, 3) := by decide +kernel
theorem dX5_doesCommand_192 : decode cX5_doesCommand 192 = .ok (.iconst 1, 1) := by decide +kernel
theorem dX5_doesCommand_193 : decode cX5_doesCommand 193 = .ok (.goto 4, 3) := by decide +kernel
theorem dX5_doesCommand_196 : decode cX5_doesCommand 196 = .ok (.iconst 0, 1) := by decide +kernel
theorem dX5_doesCommand_197 : decode cX5_doesCommand 197 = .ok (.ireturn, 1) := by decide +kernel
theorem dX5_doesCommand_198 : decode cX5_doesCommand 198 = .ok (.iload_n 3, 1) := by decide +kernel
theorem dX5_doesCommand_199 : decode cX5_doesCommand 199 = .ok (.ifCond .ne 22, 3) := by decide +kernel
theorem dX5_doesCommand_202 : decode cX5_doesCommand 202 = .ok (.aload_n 0, 1) := by decide +kernel
theorem dX5_doesCommand_203 : decode cX5_doesCommand 203 = .ok (.getfield 38, 3) := by decide +kernel
theorem dX5_doesCommand_206 : decode cX5_doesCommand 206 = .ok (.iconst 4, 1) := by decide +kernel
theorem dX5_doesCommand_207 : decode cX5_doesCommand 207 = .ok (.iload_n 2, 1) := by decide +kernel
theorem dX5_doesCommand_208 : decode cX5_doesCommand 208 = .ok (.iconst 0, 1) := by decide +kernel
theorem dX5_doesCommand_209 : decode cX5_doesCommand 209 = .ok (.iconst 0, 1) := by decide +kernel
theorem dX5_doesCommand_210 : decode cX5_doesCommand 210 = .ok (.invokevirtual 90, 3) := by decide +kernel
theorem dX5_doesCommand_213 : decode cX5_doesCommand 213 = .ok (.iconst (-1), 1) := by decide +kernel
theorem dX5_doesCommand_214 : decode cX5_doesCommand 214 = .ok (.if_icmp .eq 7, 3) := by decide +kernel
theorem dX5_doesCommand_217 : decode cX5_doesCommand 217 = .ok (.iconst 1, 1) := by decide +kernel
theorem dX5_doesCommand_218 : decode cX5_doesCommand 218 = .ok (.goto 4, 3) := by decide +kernel
theorem dX5_doesCommand_221 : decode cX5_doesCommand 221 = .ok (.iconst 0, 1) := by decide +kernel
theorem dX5_doesCommand_222 : decode cX5_doesCommand 222 = .ok (.ireturn, 1) := by decide +kernel
theorem dX5_doesCommand_223 : decode cX5_doesCommand 223 = .ok (.iload 5, 2) := by decide +kernel
theorem dX5_doesCommand_225 : decode cX5_doesCommand 225 = .ok (.ifCond .eq 24, 3) := by decide +kernel
theorem dX5_doesCommand_228 : decode cX5_doesCommand 228 = .ok (.aload_n 0, 1) := by decide +kernel
theorem dX5_doesCommand_229 : decode cX5_doesCommand 229 = .ok (.getfield 38, 3) := by decide +kernel
theorem dX5_doesCommand_232 : decode cX5_doesCommand 232 = .ok (.bipush 6, 2) := by decide +kernel
theorem dX5_doesCommand_234 : decode cX5_doesCommand 234 = .ok (.iload_n 2, 1) := by decide +kernel
theorem dX5_doesCommand_235 : decode cX5_doesCommand 235 = .ok (.iload 4, 2) := by decide +kernel
theorem dX5_doesCommand_237 : decode cX5_doesCommand 237 = .ok (.iconst 0, 1) := by decide +kernel
theorem dX5_doesCommand_238 : decode cX5_doesCommand 238 = .ok (.invokevirtual 90, 3) := by decide +kernel
theorem dX5_doesCommand_241 : decode cX5_doesCommand 241 = .ok (.iconst (-1), 1) := by decide +kernel
theorem dX5_doesCommand_242 : decode cX5_doesCommand 242 = .ok (.if_icmp .eq 7, 3) := by decide +kernel
theorem dX5_doesCommand_245 : decode cX5_doesCommand 245 = .ok (.iconst 1, 1) := by decide +kernel
theorem dX5_doesCommand_246 : decode cX5_doesCommand 246 = .ok (.goto 4, 3) := by decide +kernel
theorem dX5_doesCommand_249 : decode cX5_doesCommand 249 = .ok (.iconst 0, 1) := by decide +kernel
theorem dX5_doesCommand_250 : decode cX5_doesCommand 250 = .ok (.ireturn, 1) := by decide +kernel
theorem dX5_doesCommand_251 : decode cX5_doesCommand 251 = .ok (.iload 5, 2) := by decide +kernel
theorem dX5_doesCommand_253 : decode cX5_doesCommand 253 = .ok (.ifCond .eq 32, 3) := by decide +kernel
theorem dX5_doesCommand_256 : decode cX5_doesCommand 256 = .ok (.iload 7, 2) := by decide +kernel
theorem dX5_doesCommand_258 : decode cX5_doesCommand 258 = .ok (.ifCond .eq 27, 3) := by decide +kernel
theorem dX5_doesCommand_261 : decode cX5_doesCommand 261 = .ok (.aload_n 0, 1) := by decide +kernel
theorem dX5_doesCommand_262 : decode cX5_doesCommand 262 = .ok (.getfield 38, 3) := by decide +kernel
theorem dX5_doesCommand_265 : decode cX5_doesCommand 265 = .ok (.getfield 125, 3) := by decide +kernel
theorem dX5_doesCommand_268 : decode cX5_doesCommand 268 = .ok (.iload_n 2, 1) := by decide +kernel
theorem dX5_doesCommand_269 : decode cX5_doesCommand 269 = .ok (.aaload, 1) := by decide +kernel
theorem dX5_doesCommand_270 : decode cX5_doesCommand 270 = .ok (.getfield 137, 3) := by decide +kernel
theorem dX5_doesCommand_273 : decode cX5_doesCommand 273 = .ok (.getfield 107, 3) := by decide +kernel
theorem dX5_doesCommand_276 : decode cX5_doesCommand 276 = .ok (.iload 4, 2) := by decide +kernel
theorem dX5_doesCommand_278 : decode cX5_doesCommand 278 = .ok (.if_icmp .gt 7, 3) := by decide +kernel
theorem dX5_doesCommand_281 : decode cX5_doesCommand 281 = .ok (.iconst 1, 1) := by decide +kernel
theorem dX5_doesCommand_282 : decode cX5_doesCommand 282 = .ok (.goto 4, 3) := by decide +kernel
theorem dX5_doesCommand_285 : decode cX5_doesCommand 285 = .ok (.iconst 0, 1) := by decide +kernel
theorem dX5_doesCommand_286 : decode cX5_doesCommand 286 = .ok (.ireturn, 1) := by decide +kernel
theorem dX5_doesCommand_287 : decode cX5_doesCommand 287 = .ok (.iload 7, 2) := by decide +kernel
theorem dX5_doesCommand_289 : decode cX5_doesCommand 289 = .ok (.ifCond .eq 23, 3) := by decide +kernel
theorem dX5_doesCommand_292 : decode cX5_doesCommand 292 = .ok (.aload_n 0, 1) := by decide +kernel
theorem dX5_doesCommand_293 : decode cX5_doesCommand 293 = .ok (.getfield 38, 3) := by decide +kernel
theorem dX5_doesCommand_296 : decode cX5_doesCommand 296 = .ok (.getfield 125, 3) := by decide +kernel
theorem dX5_doesCommand_299 : decode cX5_doesCommand 299 = .ok (.iload_n 2, 1) := by decide +kernel
theorem dX5_doesCommand_300 : decode cX5_doesCommand 300 = .ok (.aaload, 1) := by decide +kernel
theorem dX5_doesCommand_301 : decode cX5_doesCommand 301 = .ok (.getfield 221, 3) := by decide +kernel
theorem dX5_doesCommand_304 : decode cX5_doesCommand 304 = .ok (.iload_n 3, 1) := by decide +kernel
theorem dX5_doesCommand_305 : decode cX5_doesCommand 305 = .ok (.if_icmp .gt 7, 3) := by decide +kernel
theorem dX5_doesCommand_308 : decode cX5_doesCommand 308 = .ok (.iconst 1, 1) := by decide +kernel
theorem dX5_doesCommand_309 : decode cX5_doesCommand 309 = .ok (.goto 4, 3) := by decide +kernel
theorem dX5_doesCommand_312 : decode cX5_doesCommand 312 = .ok (.iconst 0, 1) := by decide +kernel
theorem dX5_doesCommand_313 : decode cX5_doesCommand 313 = .ok (.ireturn, 1) := by decide +kernel
theorem dX5_doesCommand_314 : decode cX5_doesCommand 314 = .ok (.aload_n 0, 1) := by decide +kernel
theorem dX5_doesCommand_315 : decode cX5_doesCommand 315 = .ok (.getfield 41, 3) := by decide +kernel
theorem dX5_doesCommand_318 : decode cX5_doesCommand 318 = .ok (.aload_n 0, 1) := by decide +kernel
theorem dX5_doesCommand_319 : decode cX5_doesCommand 319 = .ok (.getfield 38, 3) := by decide +kernel
theorem dX5_doesCommand_322 : decode cX5_doesCommand 322 = .ok (.invokevirtual 165, 3) := by decide +kernel
theorem dX5_doesCommand_325 : decode cX5_doesCommand 325 = .ok (.iload 7, 2) := by decide +kernel
theorem dX5_doesCommand_327 : decode cX5_doesCommand 327 = .ok (.ifCond .eq 26, 3) := by decide +kernel
theorem dX5_doesCommand_330 : decode cX5_doesCommand 330 = .ok (.aload_n 0, 1) := by decide +kernel
theorem dX5_doesCommand_331 : decode cX5_doesCommand 331 = .ok (.getfield 41, 3) := by decide +kernel
theorem dX5_doesCommand_334 : decode cX5_doesCommand 334 = .ok (.iload_n 2, 1) := by decide +kernel
theorem dX5_doesCommand_335 : decode cX5_doesCommand 335 = .ok (.iload_n 3, 1) := by decide +kernel
theorem dX5_doesCommand_336 : decode cX5_doesCommand 336 = .ok (.sipush 400, 3) := by decide +kernel
theorem dX5_doesCommand_339 : decode cX5_doesCommand 339 = .ok (.invokestatic 204, 3) := by decide +kernel
theorem dX5_doesCommand_342 : decode cX5_doesCommand 342 = .ok (.invokevirtual 168, 3) := by decide +kernel
theorem dX5_doesCommand_345 : decode cX5_doesCommand 345 = .ok (.iconst (-1), 1) := by decide +kernel
theorem dX5_doesCommand_346 : decode cX5_doesCommand 346 = .ok (.if_icmp .eq 7, 3) := by decide +kernel
theorem dX5_doesCommand_349 : decode cX5_doesCommand 349 = .ok (.iconst 1, 1) := by decide +kernel
theorem dX5_doesCommand_350 : decode cX5_doesCommand 350 = .ok (.goto 4, 3) := by decide +kernel
theorem dX5_doesCommand_353 : decode cX5_doesCommand 353 = .ok (.iconst 0, 1) := by decide +kernel
theorem dX5_doesCommand_354 : decode cX5_doesCommand 354 = .ok (.ireturn, 1) := by decide +kernel
theorem dX5_doesCommand_355 : decode cX5_doesCommand 355 = .ok (.iload 6, 2) := by decide +kernel
theorem dX5_doesCommand_357 : decode cX5_doesCommand 357 = .ok (.ifCond .eq 20, 3) := by decide +kernel
theorem dX5_doesCommand_360 : decode cX5_doesCommand 360 = .ok (.aload_n 0, 1) := by decide +kernel
theorem dX5_doesCommand_361 : decode cX5_doesCommand 361 = .ok (.getfield 38, 3) := by decide +kernel
theorem dX5_doesCommand_364 : decode cX5_doesCommand 364 = .ok (.iconst 4, 1) := by decide +kernel
theorem dX5_doesCommand_365 : decode cX5_doesCommand 365 = .ok (.invokevirtual 116, 3) := by decide +kernel
theorem dX5_doesCommand_368 : decode cX5_doesCommand 368 = .ok (.iload 4, 2) := by decide +kernel
theorem dX5_doesCommand_370 : decode cX5_doesCommand 370 = .ok (.if_icmp .gt 7, 3) := by decide +kernel
theorem dX5_doesCommand_373 : decode cX5_doesCommand 373 = .ok (.iconst 1, 1) := by decide +kernel
theorem dX5_doesCommand_374 : decode cX5_doesCommand 374 = .ok (.goto 4, 3) := by decide +kernel
theorem dX5_doesCommand_377 : decode cX5_doesCommand 377 = .ok (.iconst 0, 1) := by decide +kernel
theorem dX5_doesCommand_378 : decode cX5_doesCommand 378 = .ok (.ireturn, 1) := by decide +kernel
theorem dX5_doesCommand_379 : decode cX5_doesCommand 379 = .ok (.iconst 0, 1) := by decide +kernel
theorem dX5_doesCommand_380 : decode cX5_doesCommand 380 = .ok (.ireturn, 1) := by decide +kernel
theorem dX5_takeTurn_0 : decode cX5_takeTurn 0 = .ok (.iload_n 1, 1) := by decide +kernel
theorem dX5_takeTurn_1 : decode cX5_takeTurn 1 = .ok (.bipush 8, 2) := by decide +kernel
theorem dX5_takeTurn_3 : decode cX5_takeTurn 3 = .ok (.idiv, 1) := by decide +kernel
theorem dX5_takeTurn_4 : decode cX5_takeTurn 4 = .ok (.istore_n 2, 1) := by decide +kernel
theorem dX5_takeTurn_5 : decode cX5_takeTurn 5 = .ok (.iload_n 2, 1) := by decide +kernel
theorem dX5_takeTurn_6 : decode cX5_takeTurn 6 = .ok (.iconst 4, 1) := by decide +kernel
theorem dX5_takeTurn_7 : decode cX5_takeTurn 7 = .ok (.irem, 1) := by decide +kernel
theorem dX5_takeTurn_8 : decode cX5_takeTurn 8 = .ok (.istore_n 3, 1) := by decide +kernel
theorem dX5_takeTurn_9 : decode cX5_takeTurn 9 = .ok (.iload_n 1, 1) := by decide +kernel
theorem dX5_takeTurn_10 : decode cX5_takeTurn 10 = .ok (.bipush 8, 2) := by decide +kernel
theorem dX5_takeTurn_12 : decode cX5_takeTurn 12 = .ok (.irem, 1) := by decide +kernel
theorem dX5_takeTurn_13 : decode cX5_takeTurn 13 = .ok (.tableswitch 131 0 4 #[35, 35, 35, 57, 88], 35) := by decide +kernel
theorem dX5_takeTurn_48 : decode cX5_takeTurn 48 = .ok (.aload_n 0, 1) := by decide +kernel
theorem dX5_takeTurn_49 : decode cX5_takeTurn 49 = .ok (.getfield 38, 3) := by decide +kernel
theorem dX5_takeTurn_52 : decode cX5_takeTurn 52 = .ok (.iconst 1, 1) := by decide +kernel
theorem dX5_takeTurn_53 : decode cX5_takeTurn 53 = .ok (.iload_n 3, 1) := by decide +kernel
theorem dX5_takeTurn_54 : decode cX5_takeTurn 54 = .ok (.iconst 1, 1) := by decide +kernel
theorem dX5_takeTurn_55 : decode cX5_takeTurn 55 = .ok (.iload_n 2, 1) := by decide +kernel
theorem dX5_takeTurn_56 : decode cX5_takeTurn 56 = .ok (.iconst 4, 1) := by decide +kernel
theorem dX5_takeTurn_57 : decode cX5_takeTurn 57 = .ok (.idiv, 1) := by decide +kernel
theorem dX5_takeTurn_58 : decode cX5_takeTurn 58 = .ok (.bipush 60, 2) := by decide +kernel
theorem dX5_takeTurn_60 : decode cX5_takeTurn 60 = .ok (.irem, 1) := by decide +kernel
theorem dX5_takeTurn_61 : decode cX5_takeTurn 61 = .ok (.iadd, 1) := by decide +kernel
theorem dX5_takeTurn_62 : decode cX5_takeTurn 62 = .ok (.iconst 0, 1) := by decide +kernel
theorem dX5_takeTurn_63 : decode cX5_takeTurn 63 = .ok (.invokevirtual 90, 3) := by decide +kernel
theorem dX5_takeTurn_66 : decode cX5_takeTurn 66 = .ok (.pop, 1) := by decide +kernel
theorem dX5_takeTurn_67 : decode cX5_takeTurn 67 = .ok (.goto 94, 3) := by decide +kernel
theorem dX5_takeTurn_70 : decode cX5_takeTurn 70 = .ok (.aload_n 0, 1) := by decide +kernel
theorem dX5_takeTurn_71 : decode cX5_takeTurn 71 = .ok (.getfield 38, 3) := by decide +kernel
theorem dX5_takeTurn_74 : decode cX5_takeTurn 74 = .ok (.iconst 2, 1) := by decide +kernel
theorem dX5_takeTurn_75 : decode cX5_takeTurn 75 = .ok (.iconst 1, 1) := by decide +kernel
theorem dX5_takeTurn_76 : decode cX5_takeTurn 76 = .ok (.iload_n 2, 1) := by decide +kernel
theorem dX5_takeTurn_77 : decode cX5_takeTurn 77 = .ok (.iconst 4, 1) := by decide +kernel
theorem dX5_takeTurn_78 : decode cX5_takeTurn 78 = .ok (.idiv, 1) := by decide +kernel
theorem dX5_takeTurn_79 : decode cX5_takeTurn 79 = .ok (.bipush 30, 2) := by decide +kernel
theorem dX5_takeTurn_81 : decode cX5_takeTurn 81 = .ok (.irem, 1) := by decide +kernel
theorem dX5_takeTurn_82 : decode cX5_takeTurn 82 = .ok (.iadd, 1) := by decide +kernel
theorem dX5_takeTurn_83 : decode cX5_takeTurn 83 = .ok (.iload_n 3, 1) := by decide +kernel
theorem dX5_takeTurn_84 : decode cX5_takeTurn 84 = .ok (.iconst 1, 1) := by decide +kernel
theorem dX5_takeTurn_85 : decode cX5_takeTurn 85 = .ok (.iload_n 2, 1) := by decide +kernel
theorem dX5_takeTurn_86 : decode cX5_takeTurn 86 = .ok (.sipush 256, 3) := by decide +kernel
theorem dX5_takeTurn_89 : decode cX5_takeTurn 89 = .ok (.idiv, 1) := by decide +kernel
theorem dX5_takeTurn_90 : decode cX5_takeTurn 90 = .ok (.bipush 60, 2) := by decide +kernel
theorem dX5_takeTurn_92 : decode cX5_takeTurn 92 = .ok (.irem, 1) := by decide +kernel
theorem dX5_takeTurn_93 : decode cX5_takeTurn 93 = .ok (.iadd, 1) := by decide +kernel
theorem dX5_takeTurn_94 : decode cX5_takeTurn 94 = .ok (.invokevirtual 90, 3) := by decide +kernel
theorem dX5_takeTurn_97 : decode cX5_takeTurn 97 = .ok (.pop, 1) := by decide +kernel
theorem dX5_takeTurn_98 : decode cX5_takeTurn 98 = .ok (.goto 63, 3) := by decide +kernel
theorem dX5_takeTurn_101 : decode cX5_takeTurn 101 = .ok (.iload_n 2, 1) := by decide +kernel
theorem dX5_takeTurn_102 : decode cX5_takeTurn 102 = .ok (.bipush 8, 2) := by decide +kernel
theorem dX5_takeTurn_104 : decode cX5_takeTurn 104 = .ok (.idiv, 1) := by decide +kernel
theorem dX5_takeTurn_105 : decode cX5_takeTurn 105 = .ok (.iconst 3, 1) := by decide +kernel
theorem dX5_takeTurn_106 : decode cX5_takeTurn 106 = .ok (.irem, 1) := by decide +kernel
theorem dX5_takeTurn_107 : decode cX5_takeTurn 107 = .ok (.ifCond .ne 22, 3) := by decide +kernel
theorem dX5_takeTurn_110 : decode cX5_takeTurn 110 = .ok (.aload_n 0, 1) := by decide +kernel
theorem dX5_takeTurn_111 : decode cX5_takeTurn 111 = .ok (.getfield 38, 3) := by decide +kernel
theorem dX5_takeTurn_114 : decode cX5_takeTurn 114 = .ok (.iconst 3, 1) := by decide +kernel
theorem dX5_takeTurn_115 : decode cX5_takeTurn 115 = .ok (.iload_n 3, 1) := by decide +kernel
theorem dX5_takeTurn_116 : decode cX5_takeTurn 116 = .ok (.iload_n 2, 1) := by decide +kernel
theorem dX5_takeTurn_117 : decode cX5_takeTurn 117 = .ok (.iconst 4, 1) := by decide +kernel
theorem dX5_takeTurn_118 : decode cX5_takeTurn 118 = .ok (.idiv, 1) := by decide +kernel
theorem dX5_takeTurn_119 : decode cX5_takeTurn 119 = .ok (.iconst 2, 1) := by decide +kernel
theorem dX5_takeTurn_120 : decode cX5_takeTurn 120 = .ok (.irem, 1) := by decide +kernel
theorem dX5_takeTurn_121 : decode cX5_takeTurn 121 = .ok (.iconst 0, 1) := by decide +kernel
theorem dX5_takeTurn_122 : decode cX5_takeTurn 122 = .ok (.invokevirtual 90, 3) := by decide +kernel
theorem dX5_takeTurn_125 : decode cX5_takeTurn 125 = .ok (.pop, 1) := by decide +kernel
theorem dX5_takeTurn_126 : decode cX5_takeTurn 126 = .ok (.goto 35, 3) := by decide +kernel
theorem dX5_takeTurn_129 : decode cX5_takeTurn 129 = .ok (.aload_n 0, 1) := by decide +kernel
theorem dX5_takeTurn_130 : decode cX5_takeTurn 130 = .ok (.getfield 38, 3) := by decide +kernel
theorem dX5_takeTurn_133 : decode cX5_takeTurn 133 = .ok (.iconst 4, 1) := by decide +kernel
theorem dX5_takeTurn_134 : decode cX5_takeTurn 134 = .ok (.iload_n 3, 1) := by decide +kernel
theorem dX5_takeTurn_135 : decode cX5_takeTurn 135 = .ok (.iconst 0, 1) := by decide +kernel
theorem dX5_takeTurn_136 : decode cX5_takeTurn 136 = .ok (.iconst 0, 1) := by decide +kernel
theorem dX5_takeTurn_137 : decode cX5_takeTurn 137 = .ok (.invokevirtual 90, 3) := by decide +kernel
theorem dX5_takeTurn_140 : decode cX5_takeTurn 140 = .ok (.pop, 1) := by decide +kernel
theorem dX5_takeTurn_141 : decode cX5_takeTurn 141 = .ok (.goto 20, 3) := by decide +kernel
theorem dX5_takeTurn_144 : decode cX5_takeTurn 144 = .ok (.aload_n 0, 1) := by decide +kernel
theorem dX5_takeTurn_145 : decode cX5_takeTurn 145 = .ok (.getfield 38, 3) := by decide +kernel
theorem dX5_takeTurn_148 : decode cX5_takeTurn 148 = .ok (.iconst 5, 1) := by decide +kernel
theorem dX5_takeTurn_149 : decode cX5_takeTurn 149 = .ok (.iconst 1, 1) := by decide +kernel
theorem dX5_takeTurn_150 : decode cX5_takeTurn 150 = .ok (.iload_n 2, 1) := by decide +kernel
theorem dX5_takeTurn_151 : decode cX5_takeTurn 151 = .ok (.bipush 9, 2) := by decide +kernel
theorem dX5_takeTurn_153 : decode cX5_takeTurn 153 = .ok (.irem, 1) := by decide +kernel
theorem dX5_takeTurn_154 : decode cX5_takeTurn 154 = .ok (.iadd, 1) := by decide +kernel
theorem dX5_takeTurn_155 : decode cX5_takeTurn 155 = .ok (.iconst 0, 1) := by decide +kernel
theorem dX5_takeTurn_156 : decode cX5_takeTurn 156 = .ok (.iconst 0, 1) := by decide +kernel
theorem dX5_takeTurn_157 : decode cX5_takeTurn 157 = .ok (.invokevirtual 90, 3) := by decide +kernel
theorem dX5_takeTurn_160 : decode cX5_takeTurn 160 = .ok (.pop, 1) := by decide +kernel
theorem dX5_takeTurn_161 : decode cX5_takeTurn 161 = .ok (.return_, 1) := by decide +kernel
