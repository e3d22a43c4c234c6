theorem dX4_readNumber_48 : decode cX4_readNumber 48 = .ok (.iadd, 1) := by decide +kernel
theorem dX4_readNumber_49 : decode cX4_readNumber 49 = .ok (.invokevirtual 26, 3) := by decide +kernel
theorem dX4_readNumber_52 : decode cX4_readNumber 52 = .ok (.bipush 48, 2) := by decide +kernel
theorem dX4_readNumber_54 : decode cX4_readNumber 54 = .ok (.isub, 1) := by decide +kernel
theorem dX4_readNumber_55 : decode cX4_readNumber 55 = .ok (.iadd, 1) := by decide +kernel
theorem dX4_readNumber_56 : decode cX4_readNumber 56 = .ok (.putfield 44, 3) := by decide +kernel
theorem dX4_readNumber_59 : decode cX4_readNumber 59 = .ok (.aload_n 0, 1) := by decide +kernel
theorem dX4_readNumber_60 : decode cX4_readNumber 60 = .ok (.dup, 1) := by decide +kernel
theorem dX4_readNumber_61 : decode cX4_readNumber 61 = .ok (.getfield 38, 3) := by decide +kernel
theorem dX4_readNumber_64 : decode cX4_readNumber 64 = .ok (.iconst 1, 1) := by decide +kernel
theorem dX4_readNumber_65 : decode cX4_readNumber 65 = .ok (.iadd, 1) := by decide +kernel
theorem dX4_readNumber_66 : decode cX4_readNumber 66 = .ok (.putfield 38, 3) := by decide +kernel
theorem dX4_readNumber_69 : decode cX4_readNumber 69 = .ok (.goto (-59), 3) := by decide +kernel
theorem dX4_readNumber_72 : decode cX4_readNumber 72 = .ok (.return_, 1) := by decide +kernel
theorem dX4_isDigit_0 : decode cX4_isDigit 0 = .ok (.iload_n 0, 1) := by decide +kernel
theorem dX4_isDigit_1 : decode cX4_isDigit 1 = .ok (.bipush 48, 2) := by decide +kernel
theorem dX4_isDigit_3 : decode cX4_isDigit 3 = .ok (.if_icmp .lt 13, 3) := by decide +kernel
theorem dX4_isDigit_6 : decode cX4_isDigit 6 = .ok (.iload_n 0, 1) := by decide +kernel
theorem dX4_isDigit_7 : decode cX4_isDigit 7 = .ok (.bipush 57, 2) := by decide +kernel
theorem dX4_isDigit_9 : decode cX4_isDigit 9 = .ok (.if_icmp .gt 7, 3) := by decide +kernel
theorem dX4_isDigit_12 : decode cX4_isDigit 12 = .ok (.iconst 1, 1) := by decide +kernel
theorem dX4_isDigit_13 : decode cX4_isDigit 13 = .ok (.goto 4, 3) := by decide +kernel
theorem dX4_isDigit_16 : decode cX4_isDigit 16 = .ok (.iconst 0, 1) := by decide +kernel
theorem dX4_isDigit_17 : decode cX4_isDigit 17 = .ok (.ireturn, 1) := by decide +kernel
theorem dX4_stepBehind_0 : decode cX4_stepBehind 0 = .ok (.aload_n 0, 1) := by decide +kernel
theorem dX4_stepBehind_1 : decode cX4_stepBehind 1 = .ok (.iload_n 1, 1) := by decide +kernel
theorem dX4_stepBehind_2 : decode cX4_stepBehind 2 = .ok (.aload_n 0, 1) := by decide +kernel
theorem dX4_stepBehind_3 : decode cX4_stepBehind 3 = .ok (.getfield 15, 3) := by decide +kernel
theorem dX4_stepBehind_6 : decode cX4_stepBehind 6 = .ok (.if_icmp .ne 7, 3) := by decide +kernel
theorem dX4_stepBehind_9 : decode cX4_stepBehind 9 = .ok (.iload_n 1, 1) := by decide +kernel
theorem dX4_stepBehind_10 : decode cX4_stepBehind 10 = .ok (.goto 6, 3) := by decide +kernel
theorem dX4_stepBehind_13 : decode cX4_stepBehind 13 = .ok (.iload_n 1, 1) := by decide +kernel
theorem dX4_stepBehind_14 : decode cX4_stepBehind 14 = .ok (.iconst 1, 1) := by decide +kernel
theorem dX4_stepBehind_15 : decode cX4_stepBehind 15 = .ok (.iadd, 1) := by decide +kernel
theorem dX4_stepBehind_16 : decode cX4_stepBehind 16 = .ok (.putfield 23, 3) := by decide +kernel
theorem dX4_stepBehind_19 : decode cX4_stepBehind 19 = .ok (.iload_n 1, 1) := by decide +kernel
theorem dX4_stepBehind_20 : decode cX4_stepBehind 20 = .ok (.aload_n 0, 1) := by decide +kernel
theorem dX4_stepBehind_21 : decode cX4_stepBehind 21 = .ok (.getfield 15, 3) := by decide +kernel
theorem dX4_stepBehind_24 : decode cX4_stepBehind 24 = .ok (.if_icmp .eq 24, 3) := by decide +kernel
theorem dX4_stepBehind_27 : decode cX4_stepBehind 27 = .ok (.aload_n 0, 1) := by decide +kernel
theorem dX4_stepBehind_28 : decode cX4_stepBehind 28 = .ok (.iload_n 1, 1) := by decide +kernel
theorem dX4_stepBehind_29 : decode cX4_stepBehind 29 = .ok (.invokevirtual 26, 3) := by decide +kernel
theorem dX4_stepBehind_32 : decode cX4_stepBehind 32 = .ok (.bipush 59, 2) := by decide +kernel
theorem dX4_stepBehind_34 : decode cX4_stepBehind 34 = .ok (.if_icmp .ne 18, 3) := by decide +kernel
theorem dX4_stepBehind_37 : decode cX4_stepBehind 37 = .ok (.aload_n 0, 1) := by decide +kernel
theorem dX4_stepBehind_38 : decode cX4_stepBehind 38 = .ok (.getfield 23, 3) := by decide +kernel
theorem dX4_stepBehind_41 : decode cX4_stepBehind 41 = .ok (.aload_n 0, 1) := by decide +kernel
theorem dX4_stepBehind_42 : decode cX4_stepBehind 42 = .ok (.getfield 15, 3) := by decide +kernel
theorem dX4_stepBehind_45 : decode cX4_stepBehind 45 = .ok (.if_icmp .ge 7, 3) := by decide +kernel
theorem dX4_stepBehind_48 : decode cX4_stepBehind 48 = .ok (.iconst 1, 1) := by decide +kernel
theorem dX4_stepBehind_49 : decode cX4_stepBehind 49 = .ok (.goto 4, 3) := by decide +kernel
theorem dX4_stepBehind_52 : decode cX4_stepBehind 52 = .ok (.iconst 0, 1) := by decide +kernel
theorem dX4_stepBehind_53 : decode cX4_stepBehind 53 = .ok (.ireturn, 1) := by decide +kernel
theorem dX5_init_0 : decode cX5_init 0 = .ok (.aload_n 0, 1) := by decide +kernel
theorem dX5_init_1 : decode cX5_init 1 = .ok (.invokespecial 3, 3) := by decide +kernel
theorem dX5_init_4 : decode cX5_init 4 = .ok (.aload_n 0, 1) := by decide +kernel
theorem dX5_init_5 : decode cX5_init 5 = .ok (.new 9, 3) := by decide +kernel
theorem dX5_init_8 : decode cX5_init 8 = .ok (.dup, 1) := by decide +kernel
theorem dX5_init_9 : decode cX5_init 9 = .ok (.iconst 1, 1) := by decide +kernel
theorem dX5_init_10 : decode cX5_init 10 = .ok (.invokespecial 11, 3) := by decide +kernel
theorem dX5_init_13 : decode cX5_init 13 = .ok (.putfield 14, 3) := by decide +kernel
theorem dX5_init_16 : decode cX5_init 16 = .ok (.aload_n 0, 1) := by decide +kernel
theorem dX5_init_17 : decode cX5_init 17 = .ok (.new 20, 3) := by decide +kernel
theorem dX5_init_20 : decode cX5_init 20 = .ok (.dup, 1) := by decide +kernel
theorem dX5_init_21 : decode cX5_init 21 = .ok (.bipush 6, 2) := by decide +kernel
theorem dX5_init_23 : decode cX5_init 23 = .ok (.invokespecial 22, 3) := by decide +kernel
theorem dX5_init_26 : decode cX5_init 26 = .ok (.putfield 23, 3) := by decide +kernel
theorem dX5_init_29 : decode cX5_init 29 = .ok (.aload_n 0, 1) := by decide +kernel
theorem dX5_init_30 : decode cX5_init 30 = .ok (.bipush 6, 2) := by decide +kernel
theorem dX5_init_32 : decode cX5_init 32 = .ok (.newarray .int, 2) := by decide +kernel
theorem dX5_init_34 : decode cX5_init 34 = .ok (.putfield 27, 3) := by decide +kernel
theorem dX5_init_37 : decode cX5_init 37 = .ok (.aload_n 0, 1) := by decide +kernel
theorem dX5_init_38 : decode cX5_init 38 = .ok (.bipush 6, 2) := by decide +kernel
theorem dX5_init_40 : decode cX5_init 40 = .ok (.newarray .int, 2) := by decide +kernel
theorem dX5_init_42 : decode cX5_init 42 = .ok (.putfield 31, 3) := by decide +kernel
theorem dX5_init_45 : decode cX5_init 45 = .ok (.aload_n 0, 1) := by decide +kernel
theorem dX5_init_46 : decode cX5_init 46 = .ok (.bipush 6, 2) := by decide +kernel
theorem dX5_init_48 : decode cX5_init 48 = .ok (.newarray .int, 2) := by decide +kernel
theorem dX5_init_50 : decode cX5_init 50 = .ok (.putfield 34, 3) := by decide +kernel
theorem dX5_init_53 : decode cX5_init 53 = .ok (.return_, 1) := by decide +kernel
theorem dX5_run_0 : decode cX5_run 0 = .ok (.aload_n 0, 1) := by decide +kernel
theorem dX5_run_1 : decode cX5_run 1 = .ok (.getfield 14, 3) := by decide +kernel
theorem dX5_run_4 : decode cX5_run 4 = .ok (.aload_n 1, 1) := by decide +kernel
theorem dX5_run_5 : decode cX5_run 5 = .ok (.getfield 37, 3) := by decide +kernel
theorem dX5_run_8 : decode cX5_run 8 = .ok (.invokevirtual 40, 3) := by decide +kernel
theorem dX5_run_11 : decode cX5_run 11 = .ok (.aload_n 0, 1) := by decide +kernel
theorem dX5_run_12 : decode cX5_run 12 = .ok (.aload_n 1, 1) := by decide +kernel
theorem dX5_run_13 : decode cX5_run 13 = .ok (.getfield 44, 3) := by decide +kernel
theorem dX5_run_16 : decode cX5_run 16 = .ok (.iload_n 2, 1) := by decide +kernel
theorem dX5_run_17 : decode cX5_run 17 = .ok (.invokevirtual 48, 3) := by decide +kernel
theorem dX5_run_20 : decode cX5_run 20 = .ok (.aload_n 0, 1) := by decide +kernel
theorem dX5_run_21 : decode cX5_run 21 = .ok (.aload_n 1, 1) := by decide +kernel
theorem dX5_run_22 : decode cX5_run 22 = .ok (.getfield 44, 3) := by decide +kernel
theorem dX5_run_25 : decode cX5_run 25 = .ok (.iload_n 2, 1) := by decide +kernel
theorem dX5_run_26 : decode cX5_run 26 = .ok (.invokevirtual 52, 3) := by decide +kernel
theorem dX5_run_29 : decode cX5_run 29 = .ok (.aload_n 0, 1) := by decide +kernel
theorem dX5_run_30 : decode cX5_run 30 = .ok (.invokevirtual 55, 3) := by decide +kernel
theorem dX5_run_33 : decode cX5_run 33 = .ok (.return_, 1) := by decide +kernel
theorem dX5_putAllOn_0 : decode cX5_putAllOn 0 = .ok (.aload_n 0, 1) := by decide +kernel
theorem dX5_putAllOn_1 : decode cX5_putAllOn 1 = .ok (.iconst 0, 1) := by decide +kernel
theorem dX5_putAllOn_2 : decode cX5_putAllOn 2 = .ok (.putfield 58, 3) := by decide +kernel
theorem dX5_putAllOn_5 : decode cX5_putAllOn 5 = .ok (.aload_n 0, 1) := by decide +kernel
theorem dX5_putAllOn_6 : decode cX5_putAllOn 6 = .ok (.iconst 0, 1) := by decide +kernel
theorem dX5_putAllOn_7 : decode cX5_putAllOn 7 = .ok (.putfield 62, 3) := by decide +kernel
theorem dX5_putAllOn_10 : decode cX5_putAllOn 10 = .ok (.aload_n 0, 1) := by decide +kernel
theorem dX5_putAllOn_11 : decode cX5_putAllOn 11 = .ok (.getfield 27, 3) := by decide +kernel
theorem dX5_putAllOn_14 : decode cX5_putAllOn 14 = .ok (.iconst 0, 1) := by decide +kernel
theorem dX5_putAllOn_15 : decode cX5_putAllOn 15 = .ok (.aload_n 0, 1) := by decide +kernel
theorem dX5_putAllOn_16 : decode cX5_putAllOn 16 = .ok (.getfield 14, 3) := by decide +kernel
theorem dX5_putAllOn_19 : decode cX5_putAllOn 19 = .ok (.getfield 65, 3) := by decide +kernel
theorem dX5_putAllOn_22 : decode cX5_putAllOn 22 = .ok (.iastore, 1) := by decide +kernel
theorem dX5_putAllOn_23 : decode cX5_putAllOn 23 = .ok (.aload_n 0, 1) := by decide +kernel
theorem dX5_putAllOn_24 : decode cX5_putAllOn 24 = .ok (.getfield 34, 3) := by decide +kernel
theorem dX5_putAllOn_27 : decode cX5_putAllOn 27 = .ok (.iconst 0, 1) := by decide +kernel
theorem dX5_putAllOn_28 : decode cX5_putAllOn 28 = .ok (.iconst 0, 1) := by decide +kernel
theorem dX5_putAllOn_29 : decode cX5_putAllOn 29 = .ok (.iastore, 1) := by decide +kernel
theorem dX5_putAllOn_30 : decode cX5_putAllOn 30 = .ok (.iconst 0, 1) := by decide +kernel
theorem dX5_putAllOn_31 : decode cX5_putAllOn 31 = .ok (.istore_n 3, 1) := by decide +kernel
theorem dX5_putAllOn_32 : decode cX5_putAllOn 32 = .ok (.iload_n 3, 1) := by decide +kernel
theorem dX5_putAllOn_33 : decode cX5_putAllOn 33 = .ok (.aload_n 1, 1) := by decide +kernel
theorem dX5_putAllOn_34 : decode cX5_putAllOn 34 = .ok (.getfield 68, 3) := by decide +kernel
theorem dX5_putAllOn_37 : decode cX5_putAllOn 37 = .ok (.if_icmp .ge 113, 3) := by decide +kernel
theorem dX5_putAllOn_40 : decode cX5_putAllOn 40 = .ok (.iload_n 2, 1) := by decide +kernel
theorem dX5_putAllOn_41 : decode cX5_putAllOn 41 = .ok (.iload_n 3, 1) := by decide +kernel
theorem dX5_putAllOn_42 : decode cX5_putAllOn 42 = .ok (.invokestatic 73, 3) := by decide +kernel
theorem dX5_putAllOn_45 : decode cX5_putAllOn 45 = .ok (.ifCond .eq 99, 3) := by decide +kernel
theorem dX5_putAllOn_48 : decode cX5_putAllOn 48 = .ok (.aload_n 0, 1) := by decide +kernel
theorem dX5_putAllOn_49 : decode cX5_putAllOn 49 = .ok (.getfield 58, 3) := by decide +kernel
theorem dX5_putAllOn_52 : decode cX5_putAllOn 52 = .ok (.iconst 5, 1) := by decide +kernel
theorem dX5_putAllOn_53 : decode cX5_putAllOn 53 = .ok (.if_icmp .ge 91, 3) := by decide +kernel
theorem dX5_putAllOn_56 : decode cX5_putAllOn 56 = .ok (.aload_n 0, 1) := by decide +kernel
theorem dX5_putAllOn_57 : decode cX5_putAllOn 57 = .ok (.getfield 14, 3) := by decide +kernel
theorem dX5_putAllOn_60 : decode cX5_putAllOn 60 = .ok (.aload_n 0, 1) := by decide +kernel
theorem dX5_putAllOn_61 : decode cX5_putAllOn 61 = .ok (.getfield 14, 3) := by decide +kernel
theorem dX5_putAllOn_64 : decode cX5_putAllOn 64 = .ok (.getfield 77, 3) := by decide +kernel
theorem dX5_putAllOn_67 : decode cX5_putAllOn 67 = .ok (.aload_n 1, 1) := by decide +kernel
theorem dX5_putAllOn_68 : decode cX5_putAllOn 68 = .ok (.iload_n 3, 1) := by decide +kernel
theorem dX5_putAllOn_69 : decode cX5_putAllOn 69 = .ok (.invokevirtual 80, 3) := by decide +kernel
theorem dX5_putAllOn_72 : decode cX5_putAllOn 72 = .ok (.iadd, 1) := by decide +kernel
theorem dX5_putAllOn_73 : decode cX5_putAllOn 73 = .ok (.invokevirtual 84, 3) := by decide +kernel
theorem dX5_putAllOn_76 : decode cX5_putAllOn 76 = .ok (.aload_n 0, 1) := by decide +kernel
theorem dX5_putAllOn_77 : decode cX5_putAllOn 77 = .ok (.dup, 1) := by decide +kernel
theorem dX5_putAllOn_78 : decode cX5_putAllOn 78 = .ok (.getfield 62, 3) := by decide +kernel
theorem dX5_putAllOn_81 : decode cX5_putAllOn 81 = .ok (.aload_n 1, 1) := by decide +kernel
theorem dX5_putAllOn_82 : decode cX5_putAllOn 82 = .ok (.iload_n 3, 1) := by decide +kernel
theorem dX5_putAllOn_83 : decode cX5_putAllOn 83 = .ok (.invokevirtual 87, 3) := by decide +kernel
theorem dX5_putAllOn_86 : decode cX5_putAllOn 86 = .ok (.iadd, 1) := by decide +kernel
theorem dX5_putAllOn_87 : decode cX5_putAllOn 87 = .ok (.putfield 62, 3) := by decide +kernel
theorem dX5_putAllOn_90 : decode cX5_putAllOn 90 = .ok (.aload_n 0, 1) := by decide +kernel
theorem dX5_putAllOn_91 : decode cX5_putAllOn 91 = .ok (.getfield 34, 3) := by decide +kernel
theorem dX5_putAllOn_94 : decode cX5_putAllOn 94 = .ok (.aload_n 0, 1) := by decide +kernel
theorem dX5_putAllOn_95 : decode cX5_putAllOn 95 = .ok (.getfield 58, 3) := by decide +kernel
theorem dX5_putAllOn_98 : decode cX5_putAllOn 98 = .ok (.iconst 1, 1) := by decide +kernel
theorem dX5_putAllOn_99 : decode cX5_putAllOn 99 = .ok (.iadd, 1) := by decide +kernel
theorem dX5_putAllOn_100 : decode cX5_putAllOn 100 = .ok (.aload_n 0, 1) := by decide +kernel
theorem dX5_putAllOn_101 : decode cX5_putAllOn 101 = .ok (.getfield 34, 3) := by decide +kernel
theorem dX5_putAllOn_104 : decode cX5_putAllOn 104 = .ok (.aload_n 0, 1) := by decide +kernel
theorem dX5_putAllOn_105 : decode cX5_putAllOn 105 = .ok (.getfield 58, 3) := by decide +kernel
theorem dX5_putAllOn_108 : decode cX5_putAllOn 108 = .ok (.iaload, 1) := by decide +kernel
theorem dX5_putAllOn_109 : decode cX5_putAllOn 109 = .ok (.aload_n 1, 1) := by decide +kernel
theorem dX5_putAllOn_110 : decode cX5_putAllOn 110 = .ok (.iload_n 3, 1) := by decide +kernel
theorem dX5_putAllOn_111 : decode cX5_putAllOn 111 = .ok (.invokevirtual 90, 3) := by decide +kernel
theorem dX5_putAllOn_114 : decode cX5_putAllOn 114 = .ok (.iadd, 1) := by decide +kernel
theorem dX5_putAllOn_115 : decode cX5_putAllOn 115 = .ok (.iastore, 1) := by decide +kernel
theorem dX5_putAllOn_116 : decode cX5_putAllOn 116 = .ok (.aload_n 0, 1) := by decide +kernel
theorem dX5_putAllOn_117 : decode cX5_putAllOn 117 = .ok (.getfield 27, 3) := by decide +kernel
theorem dX5_putAllOn_120 : decode cX5_putAllOn 120 = .ok (.aload_n 0, 1) := by decide +kernel
theorem dX5_putAllOn_121 : decode cX5_putAllOn 121 = .ok (.getfield 58, 3) := by decide +kernel
theorem dX5_putAllOn_124 : decode cX5_putAllOn 124 = .ok (.iconst 1, 1) := by decide +kernel
theorem dX5_putAllOn_125 : decode cX5_putAllOn 125 = .ok (.iadd, 1) := by decide +kernel
theorem dX5_putAllOn_126 : decode cX5_putAllOn 126 = .ok (.aload_n 0, 1) := by decide +kernel
theorem dX5_putAllOn_127 : decode cX5_putAllOn 127 = .ok (.getfield 14, 3) := by decide +kernel
theorem dX5_putAllOn_130 : decode cX5_putAllOn 130 = .ok (.getfield 65, 3) := by decide +kernel
theorem dX5_putAllOn_133 : decode cX5_putAllOn 133 = .ok (.iastore, 1) := by decide +kernel
theorem dX5_putAllOn_134 : decode cX5_putAllOn 134 = .ok (.aload_n 0, 1) := by decide +kernel
theorem dX5_putAllOn_135 : decode cX5_putAllOn 135 = .ok (.dup, 1) := by decide +kernel
theorem dX5_putAllOn_136 : decode cX5_putAllOn 136 = .ok (.getfield 58, 3) := by decide +kernel
theorem dX5_putAllOn_139 : decode cX5_putAllOn 139 = .ok (.iconst 1, 1) := by decide +kernel
theorem dX5_putAllOn_140 : decode cX5_putAllOn 140 = .ok (.iadd, 1) := by decide +kernel
theorem dX5_putAllOn_141 : decode cX5_putAllOn 141 = .ok (.putfield 58, 3) := by decide +kernel
theorem dX5_putAllOn_144 : decode cX5_putAllOn 144 = .ok (.iinc 3 1, 3) := by decide +kernel
theorem dX5_putAllOn_147 : decode cX5_putAllOn 147 = .ok (.goto (-115), 3) := by decide +kernel
theorem dX5_putAllOn_150 : decode cX5_putAllOn 150 = .ok (.return_, 1) := by decide +kernel
theorem dX5_takeAllOff_0 : decode cX5_takeAllOff 0 = .ok (.aload_n 0, 1) := by decide +kernel
theorem dX5_takeAllOff_1 : decode cX5_takeAllOff 1 = .ok (.getfield 58, 3) := by decide +kernel
theorem dX5_takeAllOff_4 : decode cX5_takeAllOff 4 = .ok (.istore_n 3, 1) := by decide +kernel
theorem dX5_takeAllOff_5 : decode cX5_takeAllOff 5 = .ok (.aload_n 0, 1) := by decide +kernel
theorem dX5_takeAllOff_6 : decode cX5_takeAllOff 6 = .ok (.getfield 31, 3) := by decide +kernel
theorem dX5_takeAllOff_9 : decode cX5_takeAllOff 9 = .ok (.iload_n 3, 1) := by decide +kernel
theorem dX5_takeAllOff_10 : decode cX5_takeAllOff 10 = .ok (.aload_n 0, 1) := by decide +kernel
theorem dX5_takeAllOff_11 : decode cX5_takeAllOff 11 = .ok (.getfield 14, 3) := by decide +kernel
theorem dX5_takeAllOff_14 : decode cX5_takeAllOff 14 = .ok (.getfield 65, 3) := by decide +kernel
theorem dX5_takeAllOff_17 : decode cX5_takeAllOff 17 = .ok (.iastore, 1) := by decide +kernel
theorem dX5_takeAllOff_18 : decode cX5_takeAllOff 18 = .ok (.aload_n 1, 1) := by decide +kernel
theorem dX5_takeAllOff_19 : decode cX5_takeAllOff 19 = .ok (.getfield 68, 3) := by decide +kernel
theorem dX5_takeAllOff_22 : decode cX5_takeAllOff 22 = .ok (.iconst 1, 1) := by decide +kernel
theorem dX5_takeAllOff_23 : decode cX5_takeAllOff 23 = .ok (.isub, 1) := by decide +kernel
theorem dX5_takeAllOff_24 : decode cX5_takeAllOff 24 = .ok (.istore 4, 2) := by decide +kernel
theorem dX5_takeAllOff_26 : decode cX5_takeAllOff 26 = .ok (.iload 4, 2) := by decide +kernel
theorem dX5_takeAllOff_28 : decode cX5_takeAllOff 28 = .ok (.ifCond .lt 59, 3) := by decide +kernel
theorem dX5_takeAllOff_31 : decode cX5_takeAllOff 31 = .ok (.iload_n 2, 1) := by decide +kernel
theorem dX5_takeAllOff_32 : decode cX5_takeAllOff 32 = .ok (.iload 4, 2) := by decide +kernel
theorem dX5_takeAllOff_34 : decode cX5_takeAllOff 34 = .ok (.invokestatic 73, 3) := by decide +kernel
theorem dX5_takeAllOff_37 : decode cX5_takeAllOff 37 = .ok (.ifCond .eq 44, 3) := by decide +kernel
theorem dX5_takeAllOff_40 : decode cX5_takeAllOff 40 = .ok (.iload_n 3, 1) := by decide +kernel
theorem dX5_takeAllOff_41 : decode cX5_takeAllOff 41 = .ok (.ifCond .le 40, 3) := by decide +kernel
theorem dX5_takeAllOff_44 : decode cX5_takeAllOff 44 = .ok (.aload_n 0, 1) := by decide +kernel
theorem dX5_takeAllOff_45 : decode cX5_takeAllOff 45 = .ok (.getfield 14, 3) := by decide +kernel
theorem dX5_takeAllOff_48 : decode cX5_takeAllOff 48 = .ok (.aload_n 0, 1) := by decide +kernel
theorem dX5_takeAllOff_49 : decode cX5_takeAllOff 49 = .ok (.getfield 14, 3) := by decide +kernel
theorem dX5_takeAllOff_52 : decode cX5_takeAllOff 52 = .ok (.getfield 77, 3) := by decide +kernel
theorem dX5_takeAllOff_55 : decode cX5_takeAllOff 55 = .ok (.aload_n 1, 1) := by decide +kernel
theorem dX5_takeAllOff_56 : decode cX5_takeAllOff 56 = .ok (.iload 4, 2) := by decide +kernel
theorem dX5_takeAllOff_58 : decode cX5_takeAllOff 58 = .ok (.invokevirtual 80, 3) := by decide +kernel
theorem dX5_takeAllOff_61 : decode cX5_takeAllOff 61 = .ok (.isub, 1) := by decide +kernel
theorem dX5_takeAllOff_62 : decode cX5_takeAllOff 62 = .ok (.invokevirtual 84, 3) := by decide +kernel
theorem dX5_takeAllOff_65 : decode cX5_takeAllOff 65 = .ok (.iinc 3 (-1), 3) := by decide +kernel
theorem dX5_takeAllOff_68 : decode cX5_takeAllOff 68 = .ok (.aload_n 0, 1) := by decide +kernel
theorem dX5_takeAllOff_69 : decode cX5_takeAllOff 69 = .ok (.getfield 31, 3) := by decide +kernel
theorem dX5_takeAllOff_72 : decode cX5_takeAllOff 72 = .ok (.iload_n 3, 1) := by decide +kernel
theorem dX5_takeAllOff_73 : decode cX5_takeAllOff 73 = .ok (.aload_n 0, 1) := by decide +kernel
theorem dX5_takeAllOff_74 : decode cX5_takeAllOff 74 = .ok (.getfield 14, 3) := by decide +kernel
theorem dX5_takeAllOff_77 : decode cX5_takeAllOff 77 = .ok (.getfield 65, 3) := by decide +kernel
theorem dX5_takeAllOff_80 : decode cX5_takeAllOff 80 = .ok (.iastore, 1) := by decide +kernel
theorem dX5_takeAllOff_81 : decode cX5_takeAllOff 81 = .ok (.iinc 4 (-1), 3) := by decide +kernel
theorem dX5_takeAllOff_84 : decode cX5_takeAllOff 84 = .ok (.goto (-58), 3) := by decide +kernel
theorem dX5_takeAllOff_87 : decode cX5_takeAllOff 87 = .ok (.return_, 1) := by decide +kernel
theorem dX5_layBreaks_0 : decode cX5_layBreaks 0 = .ok (.aload_n 0, 1) := by decide +kernel
theorem dX5_layBreaks_1 : decode cX5_layBreaks 1 = .ok (.getfield 23, 3) := by decide +kernel
theorem dX5_layBreaks_4 : decode cX5_layBreaks 4 = .ok (.iconst 0, 1) := by decide +kernel
theorem dX5_layBreaks_5 : decode cX5_layBreaks 5 = .ok (.invokevirtual 92, 3) := by decide +kernel
theorem dX5_layBreaks_8 : decode cX5_layBreaks 8 = .ok (.iconst 0, 1) := by decide +kernel
theorem dX5_layBreaks_9 : decode cX5_layBreaks 9 = .ok (.istore_n 1, 1) := by decide +kernel
theorem dX5_layBreaks_10 : decode cX5_layBreaks 10 = .ok (.iload_n 1, 1) := by decide +kernel
theorem dX5_layBreaks_11 : decode cX5_layBreaks 11 = .ok (.aload_n 0, 1) := by decide +kernel
theorem dX5_layBreaks_12 : decode cX5_layBreaks 12 = .ok (.getfield 58, 3) := by decide +kernel
theorem dX5_layBreaks_15 : decode cX5_layBreaks 15 = .ok (.if_icmp .gt 44, 3) := by decide +kernel
theorem dX5_layBreaks_18 : decode cX5_layBreaks 18 = .ok (.iload_n 1, 1) := by decide +kernel
theorem dX5_layBreaks_19 : decode cX5_layBreaks 19 = .ok (.iconst 5, 1) := by decide +kernel
theorem dX5_layBreaks_20 : decode cX5_layBreaks 20 = .ok (.if_icmp .gt 39, 3) := by decide +kernel
theorem dX5_layBreaks_23 : decode cX5_layBreaks 23 = .ok (.aload_n 0, 1) := by decide +kernel
theorem dX5_layBreaks_24 : decode cX5_layBreaks 24 = .ok (.getfield 23, 3) := by decide +kernel
theorem dX5_layBreaks_27 : decode cX5_layBreaks 27 = .ok (.aload_n 0, 1) := by decide +kernel
theorem dX5_layBreaks_28 : decode cX5_layBreaks 28 = .ok (.getfield 27, 3) := by decide +kernel
theorem dX5_layBreaks_31 : decode cX5_layBreaks 31 = .ok (.iload_n 1, 1) := by decide +kernel
theorem dX5_layBreaks_32 : decode cX5_layBreaks 32 = .ok (.iaload, 1) := by decide +kernel
theorem dX5_layBreaks_33 : decode cX5_layBreaks 33 = .ok (.aload_n 0, 1) := by decide +kernel
theorem dX5_layBreaks_34 : decode cX5_layBreaks 34 = .ok (.getfield 31, 3) := by decide +kernel
theorem dX5_layBreaks_37 : decode cX5_layBreaks 37 = .ok (.iload_n 1, 1) := by decide +kernel
theorem dX5_layBreaks_38 : decode cX5_layBreaks 38 = .ok (.iaload, 1) := by decide +kernel
theorem dX5_layBreaks_39 : decode cX5_layBreaks 39 = .ok (.iadd, 1) := by decide +kernel
theorem dX5_layBreaks_40 : decode cX5_layBreaks 40 = .ok (.iconst 2, 1) := by decide +kernel
theorem dX5_layBreaks_41 : decode cX5_layBreaks 41 = .ok (.invokestatic 95, 3) := by decide +kernel
theorem dX5_layBreaks_44 : decode cX5_layBreaks 44 = .ok (.aload_n 0, 1) := by decide +kernel
theorem dX5_layBreaks_45 : decode cX5_layBreaks 45 = .ok (.getfield 34, 3) := by decide +kernel
theorem dX5_layBreaks_48 : decode cX5_layBreaks 48 = .ok (.iload_n 1, 1) := by decide +kernel
theorem dX5_layBreaks_49 : decode cX5_layBreaks 49 = .ok (.iaload, 1) := by decide +kernel
theorem dX5_layBreaks_50 : decode cX5_layBreaks 50 = .ok (.invokevirtual 101, 3) := by decide +kernel
theorem dX5_layBreaks_53 : decode cX5_layBreaks 53 = .ok (.iinc 1 1, 3) := by decide +kernel
theorem dX5_layBreaks_56 : decode cX5_layBreaks 56 = .ok (.goto (-46), 3) := by decide +kernel
theorem dX5_layBreaks_59 : decode cX5_layBreaks 59 = .ok (.return_, 1) := by decide +kernel
theorem dX5_width_0 : decode cX5_width 0 = .ok (.aload_n 0, 1) := by decide +kernel
theorem dX5_width_1 : decode cX5_width 1 = .ok (.getfield 31, 3) := by decide +kernel
theorem dX5_width_4 : decode cX5_width 4 = .ok (.iconst 0, 1) := by decide +kernel
theorem dX5_width_5 : decode cX5_width 5 = .ok (.iaload, 1) := by decide +kernel
theorem dX5_width_6 : decode cX5_width 6 = .ok (.aload_n 0, 1) := by decide +kernel
theorem dX5_width_7 : decode cX5_width 7 = .ok (.getfield 27, 3) := by decide +kernel
theorem dX5_width_10 : decode cX5_width 10 = .ok (.iconst 0, 1) := by decide +kernel
theorem dX5_width_11 : decode cX5_width 11 = .ok (.iaload, 1) := by decide +kernel
theorem dX5_width_12 : decode cX5_width 12 = .ok (.isub, 1) := by decide +kernel
theorem dX5_width_13 : decode cX5_width 13 = .ok (.istore_n 1, 1) := by decide +kernel
theorem dX5_width_14 : decode cX5_width 14 = .ok (.iconst 1, 1) := by decide +kernel
theorem dX5_width_15 : decode cX5_width 15 = .ok (.istore_n 2, 1) := by decide +kernel
theorem dX5_width_16 : decode cX5_width 16 = .ok (.iload_n 2, 1) := by decide +kernel
theorem dX5_width_17 : decode cX5_width 17 = .ok (.aload_n 0, 1) := by decide +kernel
theorem dX5_width_18 : decode cX5_width 18 = .ok (.getfield 58, 3) := by decide +kernel
theorem dX5_width_21 : decode cX5_width 21 = .ok (.if_icmp .gt 32, 3) := by decide +kernel
theorem dX5_width_24 : decode cX5_width 24 = .ok (.iload_n 2, 1) := by decide +kernel
theorem dX5_width_25 : decode cX5_width 25 = .ok (.iconst 5, 1) := by decide +kernel
theorem dX5_width_26 : decode cX5_width 26 = .ok (.if_icmp .gt 27, 3) := by decide +kernel
theorem dX5_width_29 : decode cX5_width 29 = .ok (.iload_n 1, 1) := by decide +kernel
theorem dX5_width_30 : decode cX5_width 30 = .ok (.aload_n 0, 1) := by decide +kernel
theorem dX5_width_31 : decode cX5_width 31 = .ok (.getfield 31, 3) := by decide +kernel
theorem dX5_width_34 : decode cX5_width 34 = .ok (.iload_n 2, 1) := by decide +kernel
theorem dX5_width_35 : decode cX5_width 35 = .ok (.iaload, 1) := by decide +kernel
theorem dX5_width_36 : decode cX5_width 36 = .ok (.aload_n 0, 1) := by decide +kernel
theorem dX5_width_37 : decode cX5_width 37 = .ok (.getfield 27, 3) := by decide +kernel
theorem dX5_width_40 : decode cX5_width 40 = .ok (.iload_n 2, 1) := by decide +kernel
theorem dX5_width_41 : decode cX5_width 41 = .ok (.iaload, 1) := by decide +kernel
theorem dX5_width_42 : decode cX5_width 42 = .ok (.isub, 1) := by decide +kernel
theorem dX5_width_43 : decode cX5_width 43 = .ok (.invokestatic 105, 3) := by decide +kernel
theorem dX5_width_46 : decode cX5_width 46 = .ok (.istore_n 1, 1) := by decide +kernel
theorem dX5_width_47 : decode cX5_width 47 = .ok (.iinc 2 1, 3) := by decide +kernel
theorem dX5_width_50 : decode cX5_width 50 = .ok (.goto (-34), 3) := by decide +kernel
theorem dX5_width_53 : decode cX5_width 53 = .ok (.iload_n 1, 1) := by decide +kernel
theorem dX5_width_54 : decode cX5_width 54 = .ok (.ireturn, 1) := by decide +kernel
theorem dX5_isScale_0 : decode cX5_isScale 0 = .ok (.iconst 0, 1) := by decide +kernel
theorem dX5_isScale_1 : decode cX5_isScale 1 = .ok (.istore_n 1, 1) := by decide +kernel
theorem dX5_isScale_2 : decode cX5_isScale 2 = .ok (.iload_n 1, 1) := by decide +kernel
theorem dX5_isScale_3 : decode cX5_isScale 3 = .ok (.aload_n 0, 1) := by decide +kernel
theorem dX5_isScale_4 : decode cX5_isScale 4 = .ok (.getfield 23, 3) := by decide +kernel
theorem dX5_isScale_7 : decode cX5_isScale 7 = .ok (.getfield 108, 3) := by decide +kernel
theorem dX5_isScale_10 : decode cX5_isScale 10 = .ok (.if_icmp .ge 97, 3) := by decide +kernel
theorem dX5_isScale_13 : decode cX5_isScale 13 = .ok (.aload_n 0, 1) := by decide +kernel
theorem dX5_isScale_14 : decode cX5_isScale 14 = .ok (.getfield 23, 3) := by decide +kernel
theorem dX5_isScale_17 : decode cX5_isScale 17 = .ok (.iload_n 1, 1) := by decide +kernel
theorem dX5_isScale_18 : decode cX5_isScale 18 = .ok (.invokevirtual 109, 3) := by decide +kernel
theorem dX5_isScale_21 : decode cX5_isScale 21 = .ok (.sipush (-1000), 3) := by decide +kernel
theorem dX5_isScale_24 : decode cX5_isScale 24 = .ok (.sipush 30000, 3) := by decide +kernel
theorem dX5_isScale_27 : decode cX5_isScale 27 = .ok (.invokestatic 112, 3) := by decide +kernel
theorem dX5_isScale_30 : decode cX5_isScale 30 = .ok (.ifCond .ne 21, 3) := by decide +kernel
theorem dX5_isScale_33 : decode cX5_isScale 33 = .ok (.aload_n 0, 1) := by decide +kernel
theorem dX5_isScale_34 : decode cX5_isScale 34 = .ok (.getfield 23, 3) := by decide +kernel
theorem dX5_isScale_37 : decode cX5_isScale 37 = .ok (.iload_n 1, 1) := by decide +kernel
theorem dX5_isScale_38 : decode cX5_isScale 38 = .ok (.invokevirtual 116, 3) := by decide +kernel
theorem dX5_isScale_41 : decode cX5_isScale 41 = .ok (.iconst 0, 1) := by decide +kernel
theorem dX5_isScale_42 : decode cX5_isScale 42 = .ok (.sipush 1000, 3) := by decide +kernel
theorem dX5_isScale_45 : decode cX5_isScale 45 = .ok (.invokestatic 112, 3) := by decide +kernel
theorem dX5_isScale_48 : decode cX5_isScale 48 = .ok (.ifCond .eq 5, 3) := by decide +kernel
theorem dX5_isScale_51 : decode cX5_isScale 51 = .ok (.iconst 0, 1) := by decide +kernel
theorem dX5_isScale_52 : decode cX5_isScale 52 = .ok (.ireturn, 1) := by decide +kernel
theorem dX5_isScale_53 : decode cX5_isScale 53 = .ok (.iload_n 1, 1) := by decide +kernel
theorem dX5_isScale_54 : decode cX5_isScale 54 = .ok (.ifCond .le 47, 3) := by decide +kernel
theorem dX5_isScale_57 : decode cX5_isScale 57 = .ok (.aload_n 0, 1) := by decide +kernel
theorem dX5_isScale_58 : decode cX5_isScale 58 = .ok (.getfield 23, 3) := by decide +kernel
theorem dX5_isScale_61 : decode cX5_isScale 61 = .ok (.iload_n 1, 1) := by decide +kernel
theorem dX5_isScale_62 : decode cX5_isScale 62 = .ok (.invokevirtual 109, 3) := by decide +kernel
theorem dX5_isScale_65 : decode cX5_isScale 65 = .ok (.aload_n 0, 1) := by decide +kernel
theorem dX5_isScale_66 : decode cX5_isScale 66 = .ok (.getfield 23, 3) := by decide +kernel
theorem dX5_isScale_69 : decode cX5_isScale 69 = .ok (.iload_n 1, 1) := by decide +kernel
theorem dX5_isScale_70 : decode cX5_isScale 70 = .ok (.iconst 1, 1) := by decide +kernel
theorem dX5_isScale_71 : decode cX5_isScale 71 = .ok (.isub, 1) := by decide +kernel
theorem dX5_isScale_72 : decode cX5_isScale 72 = .ok (.invokevirtual 109, 3) := by decide +kernel
theorem dX5_isScale_75 : decode cX5_isScale 75 = .ok (.if_icmp .le 24, 3) := by decide +kernel
theorem dX5_isScale_78 : decode cX5_isScale 78 = .ok (.aload_n 0, 1) := by decide +kernel
theorem dX5_isScale_79 : decode cX5_isScale 79 = .ok (.getfield 23, 3) := by decide +kernel
theorem dX5_isScale_82 : decode cX5_isScale 82 = .ok (.iload_n 1, 1) := by decide +kernel
theorem dX5_isScale_83 : decode cX5_isScale 83 = .ok (.invokevirtual 116, 3) := by decide +kernel
theorem dX5_isScale_86 : decode cX5_isScale 86 = .ok (.aload_n 0, 1) := by decide +kernel
theorem dX5_isScale_87 : decode cX5_isScale 87 = .ok (.getfield 23, 3) := by decide +kernel
theorem dX5_isScale_90 : decode cX5_isScale 90 = .ok (.iload_n 1, 1) := by decide +kernel
theorem dX5_isScale_91 : decode cX5_isScale 91 = .ok (.iconst 1, 1) := by decide +kernel
theorem dX5_isScale_92 : decode cX5_isScale 92 = .ok (.isub, 1) := by decide +kernel
theorem dX5_isScale_93 : decode cX5_isScale 93 = .ok (.invokevirtual 116, 3) := by decide +kernel
theorem dX5_isScale_96 : decode cX5_isScale 96 = .ok (.if_icmp .gt 5, 3) := by decide +kernel
theorem dX5_isScale_99 : decode cX5_isScale 99 = .ok (.iconst 0, 1) := by decide +kernel
theorem dX5_isScale_100 : decode cX5_isScale 100 = .ok (.ireturn, 1) := by decide +kernel
theorem dX5_isScale_101 : decode cX5_isScale 101 = .ok (.iinc 1 1, 3) := by decide +kernel
theorem dX5_isScale_104 : decode cX5_isScale 104 = .ok (.goto (-102), 3) := by decide +kernel
theorem dX5_isScale_107 : decode cX5_isScale 107 = .ok (.iconst 1, 1) := by decide +kernel
theorem dX5_isScale_108 : decode cX5_isScale 108 = .ok (.ireturn, 1) := by decide +kernel
theorem dX5_placeIn_0 : decode cX5_placeIn 0 = .ok (.iload_n 2, 1) := by decide +kernel
theorem dX5_placeIn_1 : decode cX5_placeIn 1 = .ok (.ifCond .lt 23, 3) := by decide +kernel
theorem dX5_placeIn_4 : decode cX5_placeIn 4 = .ok (.iload_n 2, 1) := by decide +kernel
theorem dX5_placeIn_5 : decode cX5_placeIn 5 = .ok (.aload_n 0, 1) := by decide +kernel
theorem dX5_placeIn_6 : decode cX5_placeIn 6 = .ok (.getfield 58, 3) := by decide +kernel
theorem dX5_placeIn_9 : decode cX5_placeIn 9 = .ok (.if_icmp .gt 15, 3) := by decide +kernel
theorem dX5_placeIn_12 : decode cX5_placeIn 12 = .ok (.iload_n 2, 1) := by decide +kernel
theorem dX5_placeIn_13 : decode cX5_placeIn 13 = .ok (.aload_n 1, 1) := by decide +kernel
theorem dX5_placeIn_14 : decode cX5_placeIn 14 = .ok (.arraylength, 1) := by decide +kernel
theorem dX5_placeIn_15 : decode cX5_placeIn 15 = .ok (.if_icmp .ge 9, 3) := by decide +kernel
theorem dX5_placeIn_18 : decode cX5_placeIn 18 = .ok (.aload_n 1, 1) := by decide +kernel
theorem dX5_placeIn_19 : decode cX5_placeIn 19 = .ok (.iload_n 2, 1) := by decide +kernel
theorem dX5_placeIn_20 : decode cX5_placeIn 20 = .ok (.iaload, 1) := by decide +kernel
theorem dX5_placeIn_21 : decode cX5_placeIn 21 = .ok (.goto 5, 3) := by decide +kernel
theorem dX5_placeIn_24 : decode cX5_placeIn 24 = .ok (.ldc 119, 2) := by decide +kernel
theorem dX5_placeIn_26 : decode cX5_placeIn 26 = .ok (.ireturn, 1) := by decide +kernel
theorem dX5_property_0 : decode cX5_property 0 = .ok (.iload_n 1, 1) := by decide +kernel
theorem dX5_property_1 : decode cX5_property 1 = .ok (.iconst 5, 1) := by decide +kernel
theorem dX5_property_2 : decode cX5_property 2 = .ok (.if_icmp .gt 13, 3) := by decide +kernel
theorem dX5_property_5 : decode cX5_property 5 = .ok (.aload_n 0, 1) := by decide +kernel
theorem dX5_property_6 : decode cX5_property 6 = .ok (.aload_n 0, 1) := by decide +kernel
theorem dX5_property_7 : decode cX5_property 7 = .ok (.getfield 27, 3) := by decide +kernel
theorem dX5_property_10 : decode cX5_property 10 = .ok (.iload_n 1, 1) := by decide +kernel
theorem dX5_property_11 : decode cX5_property 11 = .ok (.invokevirtual 120, 3) := by decide +kernel
theorem dX5_property_14 : decode cX5_property 14 = .ok (.ireturn, 1) := by decide +kernel
theorem dX5_property_15 : decode cX5_property 15 = .ok (.iload_n 1, 1) := by decide +kernel
theorem dX5_property_16 : decode cX5_property 16 = .ok (.tableswitch 51 12 14 #[28, 33, 38], 28) := by decide +kernel
theorem dX5_property_44 : decode cX5_property 44 = .ok (.aload_n 0, 1) := by decide +kernel
theorem dX5_property_45 : decode cX5_property 45 = .ok (.invokevirtual 124, 3) := by decide +kernel
theorem dX5_property_48 : decode cX5_property 48 = .ok (.ireturn, 1) := by decide +kernel
theorem dX5_property_49 : decode cX5_property 49 = .ok (.aload_n 0, 1) := by decide +kernel
theorem dX5_property_50 : decode cX5_property 50 = .ok (.getfield 62, 3) := by decide +kernel
theorem dX5_property_53 : decode cX5_property 53 = .ok (.ireturn, 1) := by decide +kernel
theorem dX5_property_54 : decode cX5_property 54 = .ok (.aload_n 0, 1) := by decide +kernel
theorem dX5_property_55 : decode cX5_property 55 = .ok (.invokevirtual 128, 3) := by decide +kernel
theorem dX5_property_58 : decode cX5_property 58 = .ok (.ifCond .eq 7, 3) := by decide +kernel
theorem dX5_property_61 : decode cX5_property 61 = .ok (.iconst 1, 1) := by decide +kernel
theorem dX5_property_62 : decode cX5_property 62 = .ok (.goto 4, 3) := by decide +kernel
theorem dX5_property_65 : decode cX5_property 65 = .ok (.iconst 0, 1) := by decide +kernel
theorem dX5_property_66 : decode cX5_property 66 = .ok (.ireturn, 1) := by decide +kernel
theorem dX5_property_67 : decode cX5_property 67 = .ok (.aload_n 0, 1) := by decide +kernel
theorem dX5_property_68 : decode cX5_property 68 = .ok (.aload_n 0, 1) := by decide +kernel
theorem dX5_property_69 : decode cX5_property 69 = .ok (.getfield 31, 3) := by decide +kernel
theorem dX5_property_72 : decode cX5_property 72 = .ok (.iload_n 1, 1) := by decide +kernel
theorem dX5_property_73 : decode cX5_property 73 = .ok (.iconst 5, 1) := by decide +kernel
theorem dX5_property_74 : decode cX5_property 74 = .ok (.isub, 1) := by decide +kernel
theorem dX5_property_75 : decode cX5_property 75 = .ok (.iconst 1, 1) := by decide +kernel
theorem dX5_property_76 : decode cX5_property 76 = .ok (.isub, 1) := by decide +kernel
theorem dX5_property_77 : decode cX5_property 77 = .ok (.invokevirtual 120, 3) := by decide +kernel
theorem dX5_property_80 : decode cX5_property 80 = .ok (.ireturn, 1) := by decide +kernel
theorem dX6_init_0 : decode cX6_init 0 = .ok (.aload_n 0, 1) := by decide +kernel
theorem dX6_init_1 : decode cX6_init 1 = .ok (.invokespecial 3, 3) := by decide +kernel
theorem dX6_init_4 : decode cX6_init 4 = .ok (.aload_n 0, 1) := by decide +kernel
theorem dX6_init_5 : decode cX6_init 5 = .ok (.bipush 8, 2) := by decide +kernel
theorem dX6_init_7 : decode cX6_init 7 = .ok (.newarray .int, 2) := by decide +kernel
theorem dX6_init_9 : decode cX6_init 9 = .ok (.putfield 9, 3) := by decide +kernel
theorem dX6_init_12 : decode cX6_init 12 = .ok (.aload_n 0, 1) := by decide +kernel
theorem dX6_init_13 : decode cX6_init 13 = .ok (.bipush 8, 2) := by decide +kernel
theorem dX6_init_15 : decode cX6_init 15 = .ok (.newarray .int, 2) := by decide +kernel
theorem dX6_init_17 : decode cX6_init 17 = .ok (.putfield 15, 3) := by decide +kernel
theorem dX6_init_20 : decode cX6_init 20 = .ok (.aload_n 0, 1) := by decide +kernel
theorem dX6_init_21 : decode cX6_init 21 = .ok (.bipush 8, 2) := by decide +kernel
theorem dX6_init_23 : decode cX6_init 23 = .ok (.newarray .int, 2) := by decide +kernel
theorem dX6_init_25 : decode cX6_init 25 = .ok (.putfield 18, 3) := by decide +kernel
theorem dX6_init_28 : decode cX6_init 28 = .ok (.aload_n 0, 1) := by decide +kernel
theorem dX6_init_29 : decode cX6_init 29 = .ok (.bipush 8, 2) := by decide +kernel
theorem dX6_init_31 : decode cX6_init 31 = .ok (.newarray .int, 2) := by decide +kernel
theorem dX6_init_33 : decode cX6_init 33 = .ok (.putfield 21, 3) := by decide +kernel
theorem dX6_init_36 : decode cX6_init 36 = .ok (.aload_n 0, 1) := by decide +kernel
theorem dX6_init_37 : decode cX6_init 37 = .ok (.bipush 8, 2) := by decide +kernel
theorem dX6_init_39 : decode cX6_init 39 = .ok (.newarray .int, 2) := by decide +kernel
theorem dX6_init_41 : decode cX6_init 41 = .ok (.putfield 24, 3) := by decide +kernel
theorem dX6_init_44 : decode cX6_init 44 = .ok (.return_, 1) := by decide +kernel
theorem dX6_copyFrom_0 : decode cX6_copyFrom 0 = .ok (.aload_n 0, 1) := by decide +kernel
theorem dX6_copyFrom_1 : decode cX6_copyFrom 1 = .ok (.aload_n 1, 1) := by decide +kernel
theorem dX6_copyFrom_2 : decode cX6_copyFrom 2 = .ok (.getfield 27, 3) := by decide +kernel
theorem dX6_copyFrom_5 : decode cX6_copyFrom 5 = .ok (.putfield 27, 3) := by decide +kernel
theorem dX6_copyFrom_8 : decode cX6_copyFrom 8 = .ok (.aload_n 1, 1) := by decide +kernel
theorem dX6_copyFrom_9 : decode cX6_copyFrom 9 = .ok (.getfield 9, 3) := by decide +kernel
theorem dX6_copyFrom_12 : decode cX6_copyFrom 12 = .ok (.iconst 0, 1) := by decide +kernel
theorem dX6_copyFrom_13 : decode cX6_copyFrom 13 = .ok (.aload_n 0, 1) := by decide +kernel
theorem dX6_copyFrom_14 : decode cX6_copyFrom 14 = .ok (.getfield 9, 3) := by decide +kernel
theorem dX6_copyFrom_17 : decode cX6_copyFrom 17 = .ok (.iconst 0, 1) := by decide +kernel
theorem dX6_copyFrom_18 : decode cX6_copyFrom 18 = .ok (.bipush 8, 2) := by decide +kernel
theorem dX6_copyFrom_20 : decode cX6_copyFrom 20 = .ok (.invokestatic 31, 3) := by decide +kernel
theorem dX6_copyFrom_23 : decode cX6_copyFrom 23 = .ok (.aload_n 1, 1) := by decide +kernel
theorem dX6_copyFrom_24 : decode cX6_copyFrom 24 = .ok (.getfield 15, 3) := by decide +kernel
theorem dX6_copyFrom_27 : decode cX6_copyFrom 27 = .ok (.iconst 0, 1) := by decide +kernel
theorem dX6_copyFrom_28 : decode cX6_copyFrom 28 = .ok (.aload_n 0, 1) := by decide +kernel
theorem dX6_copyFrom_29 : decode cX6_copyFrom 29 = .ok (.getfield 15, 3) := by decide +kernel
theorem dX6_copyFrom_32 : decode cX6_copyFrom 32 = .ok (.iconst 0, 1) := by decide +kernel
theorem dX6_copyFrom_33 : decode cX6_copyFrom 33 = .ok (.bipush 8, 2) := by decide +kernel
theorem dX6_copyFrom_35 : decode cX6_copyFrom 35 = .ok (.invokestatic 31, 3) := by decide +kernel
theorem dX6_copyFrom_38 : decode cX6_copyFrom 38 = .ok (.aload_n 1, 1) := by decide +kernel
theorem dX6_copyFrom_39 : decode cX6_copyFrom 39 = .ok (.getfield 18, 3) := by decide +kernel
theorem dX6_copyFrom_42 : decode cX6_copyFrom 42 = .ok (.iconst 0, 1) := by decide +kernel
theorem dX6_copyFrom_43 : decode cX6_copyFrom 43 = .ok (.aload_n 0, 1) := by decide +kernel
theorem dX6_copyFrom_44 : decode cX6_copyFrom 44 = .ok (.getfield 18, 3) := by decide +kernel
theorem dX6_copyFrom_47 : decode cX6_copyFrom 47 = .ok (.iconst 0, 1) := by decide +kernel
theorem dX6_copyFrom_48 : decode cX6_copyFrom 48 = .ok (.bipush 8, 2) := by decide +kernel
theorem dX6_copyFrom_50 : decode cX6_copyFrom 50 = .ok (.invokestatic 31, 3) := by decide +kernel
theorem dX6_copyFrom_53 : decode cX6_copyFrom 53 = .ok (.aload_n 1, 1) := by decide +kernel
theorem dX6_copyFrom_54 : decode cX6_copyFrom 54 = .ok (.getfield 21, 3) := by decide +kernel
theorem dX6_copyFrom_57 : decode cX6_copyFrom 57 = .ok (.iconst 0, 1) := by decide +kernel
theorem dX6_copyFrom_58 : decode cX6_copyFrom 58 = .ok (.aload_n 0, 1) := by decide +kernel
theorem dX6_copyFrom_59 : decode cX6_copyFrom 59 = .ok (.getfield 21, 3) := by decide +kernel
theorem dX6_copyFrom_62 : decode cX6_copyFrom 62 = .ok (.iconst 0, 1) := by decide +kernel
theorem dX6_copyFrom_63 : decode cX6_copyFrom 63 = .ok (.bipush 8, 2) := by decide +kernel
theorem dX6_copyFrom_65 : decode cX6_copyFrom 65 = .ok (.invokestatic 31, 3) := by decide +kernel
theorem dX6_copyFrom_68 : decode cX6_copyFrom 68 = .ok (.aload_n 1, 1) := by decide +kernel
theorem dX6_copyFrom_69 : decode cX6_copyFrom 69 = .ok (.getfield 24, 3) := by decide +kernel
theorem dX6_copyFrom_72 : decode cX6_copyFrom 72 = .ok (.iconst 0, 1) := by decide +kernel
theorem dX6_copyFrom_73 : decode cX6_copyFrom 73 = .ok (.aload_n 0, 1) := by decide +kernel
theorem dX6_copyFrom_74 : decode cX6_copyFrom 74 = .ok (.getfield 24, 3) := by decide +kernel
theorem dX6_copyFrom_77 : decode cX6_copyFrom 77 = .ok (.iconst 0, 1) := by decide +kernel
theorem dX6_copyFrom_78 : decode cX6_copyFrom 78 = .ok (.bipush 8, 2) := by decide +kernel
theorem dX6_copyFrom_80 : decode cX6_copyFrom 80 = .ok (.invokestatic 31, 3) := by decide +kernel
theorem dX6_copyFrom_83 : decode cX6_copyFrom 83 = .ok (.return_, 1) := by decide +kernel
theorem dX6_has_0 : decode cX6_has 0 = .ok (.iload_n 1, 1) := by decide +kernel
theorem dX6_has_1 : decode cX6_has 1 = .ok (.ifCond .lt 15, 3) := by decide +kernel
theorem dX6_has_4 : decode cX6_has 4 = .ok (.iload_n 1, 1) := by decide +kernel
theorem dX6_has_5 : decode cX6_has 5 = .ok (.aload_n 0, 1) := by decide +kernel
theorem dX6_has_6 : decode cX6_has 6 = .ok (.getfield 27, 3) := by decide +kernel
theorem dX6_has_9 : decode cX6_has 9 = .ok (.if_icmp .ge 7, 3) := by decide +kernel
theorem dX6_has_12 : decode cX6_has 12 = .ok (.iconst 1, 1) := by decide +kernel
theorem dX6_has_13 : decode cX6_has 13 = .ok (.goto 4, 3) := by decide +kernel
theorem dX6_has_16 : decode cX6_has 16 = .ok (.iconst 0, 1) := by decide +kernel
theorem dX6_has_17 : decode cX6_has 17 = .ok (.ireturn, 1) := by decide +kernel
theorem dX6_append_0 : decode cX6_append 0 = .ok (.aload_n 0, 1) := by decide +kernel
theorem dX6_append_1 : decode cX6_append 1 = .ok (.getfield 27, 3) := by decide +kernel
theorem dX6_append_4 : decode cX6_append 4 = .ok (.bipush 8, 2) := by decide +kernel
theorem dX6_append_6 : decode cX6_append 6 = .ok (.if_icmp .ge 64, 3) := by decide +kernel
theorem dX6_append_9 : decode cX6_append 9 = .ok (.aload_n 0, 1) := by decide +kernel
theorem dX6_append_10 : decode cX6_append 10 = .ok (.getfield 9, 3) := by decide +kernel
theorem dX6_append_13 : decode cX6_append 13 = .ok (.aload_n 0, 1) := by decide +kernel
theorem dX6_append_14 : decode cX6_append 14 = .ok (.getfield 27, 3) := by decide +kernel
theorem dX6_append_17 : decode cX6_append 17 = .ok (.iload_n 1, 1) := by decide +kernel
theorem dX6_append_18 : decode cX6_append 18 = .ok (.iastore, 1) := by decide +kernel
theorem dX6_append_19 : decode cX6_append 19 = .ok (.aload_n 0, 1) := by decide +kernel
theorem dX6_append_20 : decode cX6_append 20 = .ok (.getfield 15, 3) := by decide +kernel
theorem dX6_append_23 : decode cX6_append 23 = .ok (.aload_n 0, 1) := by decide +kernel
theorem dX6_append_24 : decode cX6_append 24 = .ok (.getfield 27, 3) := by decide +kernel
theorem dX6_append_27 : decode cX6_append 27 = .ok (.iload_n 2, 1) := by decide +kernel
theorem dX6_append_28 : decode cX6_append 28 = .ok (.iastore, 1) := by decide +kernel
theorem dX6_append_29 : decode cX6_append 29 = .ok (.aload_n 0, 1) := by decide +kernel
theorem dX6_append_30 : decode cX6_append 30 = .ok (.getfield 18, 3) := by decide +kernel
theorem dX6_append_33 : decode cX6_append 33 = .ok (.aload_n 0, 1) := by decide +kernel
theorem dX6_append_34 : decode cX6_append 34 = .ok (.getfield 27, 3) := by decide +kernel
theorem dX6_append_37 : decode cX6_append 37 = .ok (.iload_n 3, 1) := by decide +kernel
theorem dX6_append_38 : decode cX6_append 38 = .ok (.iastore, 1) := by decide +kernel
theorem dX6_append_39 : decode cX6_append 39 = .ok (.aload_n 0, 1) := by decide +kernel
theorem dX6_append_40 : decode cX6_append 40 = .ok (.getfield 21, 3) := by decide +kernel
theorem dX6_append_43 : decode cX6_append 43 = .ok (.aload_n 0, 1) := by decide +kernel
theorem dX6_append_44 : decode cX6_append 44 = .ok (.getfield 27, 3) := by decide +kernel
theorem dX6_append_47 : decode cX6_append 47 = .ok (.iload 4, 2) := by decide +kernel
theorem dX6_append_49 : decode cX6_append 49 = .ok (.iastore, 1) := by decide +kernel
theorem dX6_append_50 : decode cX6_append 50 = .ok (.aload_n 0, 1) := by decide +kernel
theorem dX6_append_51 : decode cX6_append 51 = .ok (.getfield 24, 3) := by decide +kernel
theorem dX6_append_54 : decode cX6_append 54 = .ok (.aload_n 0, 1) := by decide +kernel
theorem dX6_append_55 : decode cX6_append 55 = .ok (.getfield 27, 3) := by decide +kernel
theorem dX6_append_58 : decode cX6_append 58 = .ok (.iconst 0, 1) := by decide +kernel
theorem dX6_append_59 : decode cX6_append 59 = .ok (.iastore, 1) := by decide +kernel
theorem dX6_append_60 : decode cX6_append 60 = .ok (.aload_n 0, 1) := by decide +kernel
theorem dX6_append_61 : decode cX6_append 61 = .ok (.dup, 1) := by decide +kernel
theorem dX6_append_62 : decode cX6_append 62 = .ok (.getfield 27, 3) := by decide +kernel
theorem dX6_append_65 : decode cX6_append 65 = .ok (.iconst 1, 1) := by decide +kernel
theorem dX6_append_66 : decode cX6_append 66 = .ok (.iadd, 1) := by decide +kernel
theorem dX6_append_67 : decode cX6_append 67 = .ok (.putfield 27, 3) := by decide +kernel
theorem dX6_append_70 : decode cX6_append 70 = .ok (.return_, 1) := by decide +kernel
theorem dX6_removeAt_0 : decode cX6_removeAt 0 = .ok (.aload_n 0, 1) := by decide +kernel
theorem dX6_removeAt_1 : decode cX6_removeAt 1 = .ok (.iload_n 1, 1) := by decide +kernel
theorem dX6_removeAt_2 : decode cX6_removeAt 2 = .ok (.invokevirtual 37, 3) := by decide +kernel
theorem dX6_removeAt_5 : decode cX6_removeAt 5 = .ok (.ifCond .ne 4, 3) := by decide +kernel
theorem dX6_removeAt_8 : decode cX6_removeAt 8 = .ok (.return_, 1) := by decide +kernel
theorem dX6_removeAt_9 : decode cX6_removeAt 9 = .ok (.aload_n 0, 1) := by decide +kernel
theorem dX6_removeAt_10 : decode cX6_removeAt 10 = .ok (.aload_n 0, 1) := by decide +kernel
theorem dX6_removeAt_11 : decode cX6_removeAt 11 = .ok (.getfield 9, 3) := by decide +kernel
theorem dX6_removeAt_14 : decode cX6_removeAt 14 = .ok (.iload_n 1, 1) := by decide +kernel
theorem dX6_removeAt_15 : decode cX6_removeAt 15 = .ok (.invokevirtual 41, 3) := by decide +kernel
theorem dX6_removeAt_18 : decode cX6_removeAt 18 = .ok (.aload_n 0, 1) := by decide +kernel
theorem dX6_removeAt_19 : decode cX6_removeAt 19 = .ok (.aload_n 0, 1) := by decide +kernel
theorem dX6_removeAt_20 : decode cX6_removeAt 20 = .ok (.getfield 15, 3) := by decide +kernel
theorem dX6_removeAt_23 : decode cX6_removeAt 23 = .ok (.iload_n 1, 1) := by decide +kernel
theorem dX6_removeAt_24 : decode cX6_removeAt 24 = .ok (.invokevirtual 41, 3) := by decide +kernel
theorem dX6_removeAt_27 : decode cX6_removeAt 27 = .ok (.aload_n 0, 1) := by decide +kernel
theorem dX6_removeAt_28 : decode cX6_removeAt 28 = .ok (.aload_n 0, 1) := by decide +kernel
theorem dX6_removeAt_29 : decode cX6_removeAt 29 = .ok (.getfield 18, 3) := by decide +kernel
theorem dX6_removeAt_32 : decode cX6_removeAt 32 = .ok (.iload_n 1, 1) := by decide +kernel
theorem dX6_removeAt_33 : decode cX6_removeAt 33 = .ok (.invokevirtual 41, 3) := by decide +kernel
theorem dX6_removeAt_36 : decode cX6_removeAt 36 = .ok (.aload_n 0, 1) := by decide +kernel
theorem dX6_removeAt_37 : decode cX6_removeAt 37 = .ok (.aload_n 0, 1) := by decide +kernel
theorem dX6_removeAt_38 : decode cX6_removeAt 38 = .ok (.getfield 21, 3) := by decide +kernel
theorem dX6_removeAt_41 : decode cX6_removeAt 41 = .ok (.iload_n 1, 1) := by decide +kernel
theorem dX6_removeAt_42 : decode cX6_removeAt 42 = .ok (.invokevirtual 41, 3) := by decide +kernel
theorem dX6_removeAt_45 : decode cX6_removeAt 45 = .ok (.aload_n 0, 1) := by decide +kernel
theorem dX6_removeAt_46 : decode cX6_removeAt 46 = .ok (.aload_n 0, 1) := by decide +kernel
theorem dX6_removeAt_47 : decode cX6_removeAt 47 = .ok (.getfield 24, 3) := by decide +kernel
theorem dX6_removeAt_50 : decode cX6_removeAt 50 = .ok (.iload_n 1, 1) := by decide +kernel
theorem dX6_removeAt_51 : decode cX6_removeAt 51 = .ok (.invokevirtual 41, 3) := by decide +kernel
theorem dX6_removeAt_54 : decode cX6_removeAt 54 = .ok (.aload_n 0, 1) := by decide +kernel
theorem dX6_removeAt_55 : decode cX6_removeAt 55 = .ok (.dup, 1) := by decide +kernel
theorem dX6_removeAt_56 : decode cX6_removeAt 56 = .ok (.getfield 27, 3) := by decide +kernel
theorem dX6_removeAt_59 : decode cX6_removeAt 59 = .ok (.iconst 1, 1) := by decide +kernel
theorem dX6_removeAt_60 : decode cX6_removeAt 60 = .ok (.isub, 1) := by decide +kernel
theorem dX6_removeAt_61 : decode cX6_removeAt 61 = .ok (.putfield 27, 3) := by decide +kernel
theorem dX6_removeAt_64 : decode cX6_removeAt 64 = .ok (.iconst 0, 1) := by decide +kernel
theorem dX6_removeAt_65 : decode cX6_removeAt 65 = .ok (.istore_n 2, 1) := by decide +kernel
theorem dX6_removeAt_66 : decode cX6_removeAt 66 = .ok (.iload_n 2, 1) := by decide +kernel
theorem dX6_removeAt_67 : decode cX6_removeAt 67 = .ok (.aload_n 0, 1) := by decide +kernel
theorem dX6_removeAt_68 : decode cX6_removeAt 68 = .ok (.getfield 27, 3) := by decide +kernel
theorem dX6_removeAt_71 : decode cX6_removeAt 71 = .ok (.if_icmp .ge 29, 3) := by decide +kernel
theorem dX6_removeAt_74 : decode cX6_removeAt 74 = .ok (.aload_n 0, 1) := by decide +kernel
theorem dX6_removeAt_75 : decode cX6_removeAt 75 = .ok (.getfield 21, 3) := by decide +kernel
theorem dX6_removeAt_78 : decode cX6_removeAt 78 = .ok (.iload_n 2, 1) := by decide +kernel
theorem dX6_removeAt_79 : decode cX6_removeAt 79 = .ok (.iaload, 1) := by decide +kernel
theorem dX6_removeAt_80 : decode cX6_removeAt 80 = .ok (.iload_n 1, 1) := by decide +kernel
theorem dX6_removeAt_81 : decode cX6_removeAt 81 = .ok (.if_icmp .le 13, 3) := by decide +kernel
theorem dX6_removeAt_84 : decode cX6_removeAt 84 = .ok (.aload_n 0, 1) := by decide +kernel
theorem dX6_removeAt_85 : decode cX6_removeAt 85 = .ok (.getfield 21, 3) := by decide +kernel
theorem dX6_removeAt_88 : decode cX6_removeAt 88 = .ok (.iload_n 2, 1) := by decide +kernel
theorem dX6_removeAt_89 : decode cX6_removeAt 89 = .ok (.dup2, 1) := by decide +kernel
theorem dX6_removeAt_90 : decode cX6_removeAt 90 = .ok (.iaload, 1) := by decide +kernel
theorem dX6_removeAt_91 : decode cX6_removeAt 91 = .ok (.iconst 1, 1) := by decide +kernel
theorem dX6_removeAt_92 : decode cX6_removeAt 92 = .ok (.isub, 1) := by decide +kernel
theorem dX6_removeAt_93 : decode cX6_removeAt 93 = .ok (.iastore, 1) := by decide +kernel
theorem dX6_removeAt_94 : decode cX6_removeAt 94 = .ok (.iinc 2 1, 3) := by decide +kernel
theorem dX6_removeAt_97 : decode cX6_removeAt 97 = .ok (.goto (-31), 3) := by decide +kernel
theorem dX6_removeAt_100 : decode cX6_removeAt 100 = .ok (.return_, 1) := by decide +kernel
theorem dX6_closeGap_0 : decode cX6_closeGap 0 = .ok (.iload_n 2, 1) := by decide +kernel
theorem dX6_closeGap_1 : decode cX6_closeGap 1 = .ok (.istore_n 3, 1) := by decide +kernel
theorem dX6_closeGap_2 : decode cX6_closeGap 2 = .ok (.iload_n 3, 1) := by decide +kernel
theorem dX6_closeGap_3 : decode cX6_closeGap 3 = .ok (.iconst 1, 1) := by decide +kernel
theorem dX6_closeGap_4 : decode cX6_closeGap 4 = .ok (.iadd, 1) := by decide +kernel
theorem dX6_closeGap_5 : decode cX6_closeGap 5 = .ok (.aload_n 0, 1) := by decide +kernel
theorem dX6_closeGap_6 : decode cX6_closeGap 6 = .ok (.getfield 27, 3) := by decide +kernel
theorem dX6_closeGap_9 : decode cX6_closeGap 9 = .ok (.if_icmp .ge 25, 3) := by decide +kernel
theorem dX6_closeGap_12 : decode cX6_closeGap 12 = .ok (.iload_n 3, 1) := by decide +kernel
theorem dX6_closeGap_13 : decode cX6_closeGap 13 = .ok (.iconst 1, 1) := by decide +kernel
theorem dX6_closeGap_14 : decode cX6_closeGap 14 = .ok (.iadd, 1) := by decide +kernel
theorem dX6_closeGap_15 : decode cX6_closeGap 15 = .ok (.aload_n 1, 1) := by decide +kernel
theorem dX6_closeGap_16 : decode cX6_closeGap 16 = .ok (.arraylength, 1) := by decide +kernel
theorem dX6_closeGap_17 : decode cX6_closeGap 17 = .ok (.if_icmp .ge 17, 3) := by decide +kernel
theorem dX6_closeGap_20 : decode cX6_closeGap 20 = .ok (.aload_n 1, 1) := by decide +kernel
theorem dX6_closeGap_21 : decode cX6_closeGap 21 = .ok (.iload_n 3, 1) := by decide +kernel
theorem dX6_closeGap_22 : decode cX6_closeGap 22 = .ok (.aload_n 1, 1) := by decide +kernel
theorem dX6_closeGap_23 : decode cX6_closeGap 23 = .ok (.iload_n 3, 1) := by decide +kernel
theorem dX6_closeGap_24 : decode cX6_closeGap 24 = .ok (.iconst 1, 1) := by decide +kernel
theorem dX6_closeGap_25 : decode cX6_closeGap 25 = .ok (.iadd, 1) := by decide +kernel
theorem dX6_closeGap_26 : decode cX6_closeGap 26 = .ok (.iaload, 1) := by decide +kernel
theorem dX6_closeGap_27 : decode cX6_closeGap 27 = .ok (.iastore, 1) := by decide +kernel
theorem dX6_closeGap_28 : decode cX6_closeGap 28 = .ok (.iinc 3 1, 3) := by decide +kernel
theorem dX6_closeGap_31 : decode cX6_closeGap 31 = .ok (.goto (-29), 3) := by decide +kernel
theorem dX6_closeGap_34 : decode cX6_closeGap 34 = .ok (.return_, 1) := by decide +kernel
theorem dX6_mass_0 : decode cX6_mass 0 = .ok (.aload_n 0, 1) := by decide +kernel
theorem dX6_mass_1 : decode cX6_mass 1 = .ok (.iload_n 1, 1) := by decide +kernel
theorem dX6_mass_2 : decode cX6_mass 2 = .ok (.invokevirtual 37, 3) := by decide +kernel
theorem dX6_mass_5 : decode cX6_mass 5 = .ok (.ifCond .eq 12, 3) := by decide +kernel
theorem dX6_mass_8 : decode cX6_mass 8 = .ok (.aload_n 0, 1) := by decide +kernel
theorem dX6_mass_9 : decode cX6_mass 9 = .ok (.getfield 9, 3) := by decide +kernel
theorem dX6_mass_12 : decode cX6_mass 12 = .ok (.iload_n 1, 1) := by decide +kernel
theorem dX6_mass_13 : decode cX6_mass 13 = .ok (.iaload, 1) := by decide +kernel
theorem dX6_mass_14 : decode cX6_mass 14 = .ok (.goto 4, 3) := by decide +kernel
theorem dX6_mass_17 : decode cX6_mass 17 = .ok (.iconst 0, 1) := by decide +kernel
theorem dX6_mass_18 : decode cX6_mass 18 = .ok (.ireturn, 1) := by decide +kernel
theorem dX6_told_0 : decode cX6_told 0 = .ok (.aload_n 0, 1) := by decide +kernel
theorem dX6_told_1 : decode cX6_told 1 = .ok (.iload_n 1, 1) := by decide +kernel
theorem dX6_told_2 : decode cX6_told 2 = .ok (.invokevirtual 37, 3) := by decide +kernel
theorem dX6_told_5 : decode cX6_told 5 = .ok (.ifCond .eq 19, 3) := by decide +kernel
theorem dX6_told_8 : decode cX6_told 8 = .ok (.aload_n 0, 1) := by decide +kernel
theorem dX6_told_9 : decode cX6_told 9 = .ok (.getfield 9, 3) := by decide +kernel
theorem dX6_told_12 : decode cX6_told 12 = .ok (.iload_n 1, 1) := by decide +kernel
theorem dX6_told_13 : decode cX6_told 13 = .ok (.iaload, 1) := by decide +kernel
theorem dX6_told_14 : decode cX6_told 14 = .ok (.aload_n 0, 1) := by decide +kernel
theorem dX6_told_15 : decode cX6_told 15 = .ok (.getfield 15, 3) := by decide +kernel
theorem dX6_told_18 : decode cX6_told 18 = .ok (.iload_n 1, 1) := by decide +kernel
theorem dX6_told_19 : decode cX6_told 19 = .ok (.iaload, 1) := by decide +kernel
theorem dX6_told_20 : decode cX6_told 20 = .ok (.iadd, 1) := by decide +kernel
theorem dX6_told_21 : decode cX6_told 21 = .ok (.goto 4, 3) := by decide +kernel
theorem dX6_told_24 : decode cX6_told 24 = .ok (.iconst 0, 1) := by decide +kernel
theorem dX6_told_25 : decode cX6_told 25 = .ok (.ireturn, 1) := by decide +kernel
theorem dX6_isOnPan_0 : decode cX6_isOnPan 0 = .ok (.aload_n 0, 1) := by decide +kernel
theorem dX6_isOnPan_1 : decode cX6_isOnPan 1 = .ok (.iload_n 1, 1) := by decide +kernel
theorem dX6_isOnPan_2 : decode cX6_isOnPan 2 = .ok (.invokevirtual 37, 3) := by decide +kernel
theorem dX6_isOnPan_5 : decode cX6_isOnPan 5 = .ok (.ifCond .eq 16, 3) := by decide +kernel
theorem dX6_isOnPan_8 : decode cX6_isOnPan 8 = .ok (.aload_n 0, 1) := by decide +kernel
theorem dX6_isOnPan_9 : decode cX6_isOnPan 9 = .ok (.getfield 24, 3) := by decide +kernel
theorem dX6_isOnPan_12 : decode cX6_isOnPan 12 = .ok (.iload_n 1, 1) := by decide +kernel
theorem dX6_isOnPan_13 : decode cX6_isOnPan 13 = .ok (.iaload, 1) := by decide +kernel
theorem dX6_isOnPan_14 : decode cX6_isOnPan 14 = .ok (.ifCond .eq 7, 3) := by decide +kernel
theorem dX6_isOnPan_17 : decode cX6_isOnPan 17 = .ok (.iconst 1, 1) := by decide +kernel
theorem dX6_isOnPan_18 : decode cX6_isOnPan 18 = .ok (.goto 4, 3) := by decide +kernel
theorem dX6_isOnPan_21 : decode cX6_isOnPan 21 = .ok (.iconst 0, 1) := by decide +kernel
theorem dX6_isOnPan_22 : decode cX6_isOnPan 22 = .ok (.ireturn, 1) := by decide +kernel
theorem dX6_lay_0 : decode cX6_lay 0 = .ok (.aload_n 0, 1) := by decide +kernel
theorem dX6_lay_1 : decode cX6_lay 1 = .ok (.iload_n 1, 1) := by decide +kernel
theorem dX6_lay_2 : decode cX6_lay 2 = .ok (.invokevirtual 37, 3) := by decide +kernel
theorem dX6_lay_5 : decode cX6_lay 5 = .ok (.ifCond .eq 10, 3) := by decide +kernel
theorem dX6_lay_8 : decode cX6_lay 8 = .ok (.aload_n 0, 1) := by decide +kernel
theorem dX6_lay_9 : decode cX6_lay 9 = .ok (.getfield 24, 3) := by decide +kernel
theorem dX6_lay_12 : decode cX6_lay 12 = .ok (.iload_n 1, 1) := by decide +kernel
theorem dX6_lay_13 : decode cX6_lay 13 = .ok (.iload_n 2, 1) := by decide +kernel
theorem dX6_lay_14 : decode cX6_lay 14 = .ok (.iastore, 1) := by decide +kernel
theorem dX6_lay_15 : decode cX6_lay 15 = .ok (.return_, 1) := by decide +kernel
theorem dX6_numberOnPan_0 : decode cX6_numberOnPan 0 = .ok (.iconst 0, 1) := by decide +kernel
theorem dX6_numberOnPan_1 : decode cX6_numberOnPan 1 = .ok (.istore_n 1, 1) := by decide +kernel
theorem dX6_numberOnPan_2 : decode cX6_numberOnPan 2 = .ok (.iconst 0, 1) := by decide +kernel
theorem dX6_numberOnPan_3 : decode cX6_numberOnPan 3 = .ok (.istore_n 2, 1) := by decide +kernel
theorem dX6_numberOnPan_4 : decode cX6_numberOnPan 4 = .ok (.iload_n 2, 1) := by decide +kernel
theorem dX6_numberOnPan_5 : decode cX6_numberOnPan 5 = .ok (.aload_n 0, 1) := by decide +kernel
theorem dX6_numberOnPan_6 : decode cX6_numberOnPan 6 = .ok (.getfield 27, 3) := by decide +kernel
theorem dX6_numberOnPan_9 : decode cX6_numberOnPan 9 = .ok (.if_icmp .ge 18, 3) := by decide +kernel
theorem dX6_numberOnPan_12 : decode cX6_numberOnPan 12 = .ok (.iload_n 1, 1) := by decide +kernel
theorem dX6_numberOnPan_13 : decode cX6_numberOnPan 13 = .ok (.aload_n 0, 1) := by decide +kernel
theorem dX6_numberOnPan_14 : decode cX6_numberOnPan 14 = .ok (.getfield 24, 3) := by decide +kernel
theorem dX6_numberOnPan_17 : decode cX6_numberOnPan 17 = .ok (.iload_n 2, 1) := by decide +kernel
theorem dX6_numberOnPan_18 : decode cX6_numberOnPan 18 = .ok (.iaload, 1) := by decide +kernel
theorem dX6_numberOnPan_19 : decode cX6_numberOnPan 19 = .ok (.iadd, 1) := by decide +kernel
theorem dX6_numberOnPan_20 : decode cX6_numberOnPan 20 = .ok (.istore_n 1, 1) := by decide +kernel
theorem dX6_numberOnPan_21 : decode cX6_numberOnPan 21 = .ok (.iinc 2 1, 3) := by decide +kernel
theorem dX6_numberOnPan_24 : decode cX6_numberOnPan 24 = .ok (.goto (-20), 3) := by decide +kernel
theorem dX6_numberOnPan_27 : decode cX6_numberOnPan 27 = .ok (.iload_n 1, 1) := by decide +kernel
theorem dX6_numberOnPan_28 : decode cX6_numberOnPan 28 = .ok (.ireturn, 1) := by decide +kernel
theorem dX6_massOnPan_0 : decode cX6_massOnPan 0 = .ok (.iconst 0, 1) := by decide +kernel
theorem dX6_massOnPan_1 : decode cX6_massOnPan 1 = .ok (.istore_n 1, 1) := by decide +kernel
theorem dX6_massOnPan_2 : decode cX6_massOnPan 2 = .ok (.iconst 0, 1) := by decide +kernel
theorem dX6_massOnPan_3 : decode cX6_massOnPan 3 = .ok (.istore_n 2, 1) := by decide +kernel
theorem dX6_massOnPan_4 : decode cX6_massOnPan 4 = .ok (.iload_n 2, 1) := by decide +kernel
theorem dX6_massOnPan_5 : decode cX6_massOnPan 5 = .ok (.aload_n 0, 1) := by decide +kernel
theorem dX6_massOnPan_6 : decode cX6_massOnPan 6 = .ok (.getfield 27, 3) := by decide +kernel
theorem dX6_massOnPan_9 : decode cX6_massOnPan 9 = .ok (.if_icmp .ge 25, 3) := by decide +kernel
theorem dX6_massOnPan_12 : decode cX6_massOnPan 12 = .ok (.iload_n 1, 1) := by decide +kernel
theorem dX6_massOnPan_13 : decode cX6_massOnPan 13 = .ok (.aload_n 0, 1) := by decide +kernel
theorem dX6_massOnPan_14 : decode cX6_massOnPan 14 = .ok (.getfield 24, 3) := by decide +kernel
theorem dX6_massOnPan_17 : decode cX6_massOnPan 17 = .ok (.iload_n 2, 1) := by decide +kernel
theorem dX6_massOnPan_18 : decode cX6_massOnPan 18 = .ok (.iaload, 1) := by decide +kernel
theorem dX6_massOnPan_19 : decode cX6_massOnPan 19 = .ok (.aload_n 0, 1) := by decide +kernel
theorem dX6_massOnPan_20 : decode cX6_massOnPan 20 = .ok (.getfield 9, 3) := by decide +kernel
theorem dX6_massOnPan_23 : decode cX6_massOnPan 23 = .ok (.iload_n 2, 1) := by decide +kernel
theorem dX6_massOnPan_24 : decode cX6_massOnPan 24 = .ok (.iaload, 1) := by decide +kernel
theorem dX6_massOnPan_25 : decode cX6_massOnPan 25 = .ok (.imul, 1) := by decide +kernel
theorem dX6_massOnPan_26 : decode cX6_massOnPan 26 = .ok (.iadd, 1) := by decide +kernel
theorem dX6_massOnPan_27 : decode cX6_massOnPan 27 = .ok (.istore_n 1, 1) := by decide +kernel
theorem dX6_massOnPan_28 : decode cX6_massOnPan 28 = .ok (.iinc 2 1, 3) := by decide +kernel
theorem dX6_massOnPan_31 : decode cX6_massOnPan 31 = .ok (.goto (-27), 3) := by decide +kernel
theorem dX6_massOnPan_34 : decode cX6_massOnPan 34 = .ok (.iload_n 1, 1) := by decide +kernel
theorem dX6_massOnPan_35 : decode cX6_massOnPan 35 = .ok (.ireturn, 1) := by decide +kernel
theorem dX6_isParent_0 : decode cX6_isParent 0 = .ok (.iconst 0, 1) := by decide +kernel
theorem dX6_isParent_1 : decode cX6_isParent 1 = .ok (.istore_n 2, 1) := by decide +kernel
theorem dX6_isParent_2 : decode cX6_isParent 2 = .ok (.iload_n 2, 1) := by decide +kernel
theorem dX6_isParent_3 : decode cX6_isParent 3 = .ok (.aload_n 0, 1) := by decide +kernel
theorem dX6_isParent_4 : decode cX6_isParent 4 = .ok (.getfield 27, 3) := by decide +kernel
theorem dX6_isParent_7 : decode cX6_isParent 7 = .ok (.if_icmp .ge 21, 3) := by decide +kernel
theorem dX6_isParent_10 : decode cX6_isParent 10 = .ok (.aload_n 0, 1) := by decide +kernel
theorem dX6_isParent_11 : decode cX6_isParent 11 = .ok (.getfield 21, 3) := by decide +kernel
theorem dX6_isParent_14 : decode cX6_isParent 14 = .ok (.iload_n 2, 1) := by decide +kernel
theorem dX6_isParent_15 : decode cX6_isParent 15 = .ok (.iaload, 1) := by decide +kernel
theorem dX6_isParent_16 : decode cX6_isParent 16 = .ok (.iload_n 1, 1) := by decide +kernel
theorem dX6_isParent_17 : decode cX6_isParent 17 = .ok (.if_icmp .ne 5, 3) := by decide +kernel
theorem dX6_isParent_20 : decode cX6_isParent 20 = .ok (.iconst 1, 1) := by decide +kernel
theorem dX6_isParent_21 : decode cX6_isParent 21 = .ok (.ireturn, 1) := by decide +kernel
theorem dX6_isParent_22 : decode cX6_isParent 22 = .ok (.iinc 2 1, 3) := by decide +kernel
theorem dX6_isParent_25 : decode cX6_isParent 25 = .ok (.goto (-23), 3) := by decide +kernel
theorem dX6_isParent_28 : decode cX6_isParent 28 = .ok (.iconst 0, 1) := by decide +kernel
theorem dX6_isParent_29 : decode cX6_isParent 29 = .ok (.ireturn, 1) := by decide +kernel
theorem dX6_sumToStandard_0 : decode cX6_sumToStandard 0 = .ok (.iconst 0, 1) := by decide +kernel
theorem dX6_sumToStandard_1 : decode cX6_sumToStandard 1 = .ok (.istore_n 3, 1) := by decide +kernel
theorem dX6_sumToStandard_2 : decode cX6_sumToStandard 2 = .ok (.iload_n 2, 1) := by decide +kernel
theorem dX6_sumToStandard_3 : decode cX6_sumToStandard 3 = .ok (.istore 4, 2) := by decide +kernel
theorem dX6_sumToStandard_5 : decode cX6_sumToStandard 5 = .ok (.iconst 0, 1) := by decide +kernel
theorem dX6_sumToStandard_6 : decode cX6_sumToStandard 6 = .ok (.istore 5, 2) := by decide +kernel
theorem dX6_sumToStandard_8 : decode cX6_sumToStandard 8 = .ok (.iload 5, 2) := by decide +kernel
theorem dX6_sumToStandard_10 : decode cX6_sumToStandard 10 = .ok (.bipush 8, 2) := by decide +kernel
theorem dX6_sumToStandard_12 : decode cX6_sumToStandard 12 = .ok (.if_icmp .ge 41, 3) := by decide +kernel
theorem dX6_sumToStandard_15 : decode cX6_sumToStandard 15 = .ok (.aload_n 0, 1) := by decide +kernel
theorem dX6_sumToStandard_16 : decode cX6_sumToStandard 16 = .ok (.iload 4, 2) := by decide +kernel
theorem dX6_sumToStandard_18 : decode cX6_sumToStandard 18 = .ok (.invokevirtual 37, 3) := by decide +kernel
theorem dX6_sumToStandard_21 : decode cX6_sumToStandard 21 = .ok (.ifCond .eq 32, 3) := by decide +kernel
theorem dX6_sumToStandard_24 : decode cX6_sumToStandard 24 = .ok (.iload 4, 2) := by decide +kernel
theorem dX6_sumToStandard_26 : decode cX6_sumToStandard 26 = .ok (.aload_n 1, 1) := by decide +kernel
theorem dX6_sumToStandard_27 : decode cX6_sumToStandard 27 = .ok (.arraylength, 1) := by decide +kernel
theorem dX6_sumToStandard_28 : decode cX6_sumToStandard 28 = .ok (.if_icmp .ge 25, 3) := by decide +kernel
theorem dX6_sumToStandard_31 : decode cX6_sumToStandard 31 = .ok (.iload_n 3, 1) := by decide +kernel
theorem dX6_sumToStandard_32 : decode cX6_sumToStandard 32 = .ok (.aload_n 1, 1) := by decide +kernel
theorem dX6_sumToStandard_33 : decode cX6_sumToStandard 33 = .ok (.iload 4, 2) := by decide +kernel
theorem dX6_sumToStandard_35 : decode cX6_sumToStandard 35 = .ok (.iaload, 1) := by decide +kernel
theorem dX6_sumToStandard_36 : decode cX6_sumToStandard 36 = .ok (.iadd, 1) := by decide +kernel
theorem dX6_sumToStandard_37 : decode cX6_sumToStandard 37 = .ok (.istore_n 3, 1) := by decide +kernel
theorem dX6_sumToStandard_38 : decode cX6_sumToStandard 38 = .ok (.aload_n 0, 1) := by decide +kernel
theorem dX6_sumToStandard_39 : decode cX6_sumToStandard 39 = .ok (.getfield 21, 3) := by decide +kernel
theorem dX6_sumToStandard_42 : decode cX6_sumToStandard 42 = .ok (.iload 4, 2) := by decide +kernel
theorem dX6_sumToStandard_44 : decode cX6_sumToStandard 44 = .ok (.iaload, 1) := by decide +kernel
theorem dX6_sumToStandard_45 : decode cX6_sumToStandard 45 = .ok (.istore 4, 2) := by decide +kernel
theorem dX6_sumToStandard_47 : decode cX6_sumToStandard 47 = .ok (.iinc 5 1, 3) := by decide +kernel
theorem dX6_sumToStandard_50 : decode cX6_sumToStandard 50 = .ok (.goto (-42), 3) := by decide +kernel
theorem dX6_sumToStandard_53 : decode cX6_sumToStandard 53 = .ok (.iload_n 3, 1) := by decide +kernel
theorem dX6_sumToStandard_54 : decode cX6_sumToStandard 54 = .ok (.ireturn, 1) := by decide +kernel
theorem dX6_totalVariance_0 : decode cX6_totalVariance 0 = .ok (.aload_n 0, 1) := by decide +kernel
theorem dX6_totalVariance_1 : decode cX6_totalVariance 1 = .ok (.aload_n 0, 1) := by decide +kernel
theorem dX6_totalVariance_2 : decode cX6_totalVariance 2 = .ok (.getfield 18, 3) := by decide +kernel
theorem dX6_totalVariance_5 : decode cX6_totalVariance 5 = .ok (.iload_n 1, 1) := by decide +kernel
theorem dX6_totalVariance_6 : decode cX6_totalVariance 6 = .ok (.invokevirtual 45, 3) := by decide +kernel
theorem dX6_totalVariance_9 : decode cX6_totalVariance 9 = .ok (.ireturn, 1) := by decide +kernel
theorem dX6_depth_0 : decode cX6_depth 0 = .ok (.iconst 0, 1) := by decide +kernel
theorem dX6_depth_1 : decode cX6_depth 1 = .ok (.istore_n 2, 1) := by decide +kernel
theorem dX6_depth_2 : decode cX6_depth 2 = .ok (.iload_n 1, 1) := by decide +kernel
theorem dX6_depth_3 : decode cX6_depth 3 = .ok (.istore_n 3, 1) := by decide +kernel
theorem dX6_depth_4 : decode cX6_depth 4 = .ok (.iconst 0, 1) := by decide +kernel
theorem dX6_depth_5 : decode cX6_depth 5 = .ok (.istore 4, 2) := by decide +kernel
theorem dX6_depth_7 : decode cX6_depth 7 = .ok (.iload 4, 2) := by decide +kernel
theorem dX6_depth_9 : decode cX6_depth 9 = .ok (.bipush 8, 2) := by decide +kernel
theorem dX6_depth_11 : decode cX6_depth 11 = .ok (.if_icmp .ge 27, 3) := by decide +kernel
theorem dX6_depth_14 : decode cX6_depth 14 = .ok (.aload_n 0, 1) := by decide +kernel
theorem dX6_depth_15 : decode cX6_depth 15 = .ok (.iload_n 3, 1) := by decide +kernel
theorem dX6_depth_16 : decode cX6_depth 16 = .ok (.invokevirtual 37, 3) := by decide +kernel
theorem dX6_depth_19 : decode cX6_depth 19 = .ok (.ifCond .eq 19, 3) := by decide +kernel
theorem dX6_depth_22 : decode cX6_depth 22 = .ok (.iinc 2 1, 3) := by decide +kernel
theorem dX6_depth_25 : decode cX6_depth 25 = .ok (.aload_n 0, 1) := by decide +kernel
theorem dX6_depth_26 : decode cX6_depth 26 = .ok (.getfield 21, 3) := by decide +kernel
theorem dX6_depth_29 : decode cX6_depth 29 = .ok (.iload_n 3, 1) := by decide +kernel
theorem dX6_depth_30 : decode cX6_depth 30 = .ok (.iaload, 1) := by decide +kernel
theorem dX6_depth_31 : decode cX6_depth 31 = .ok (.istore_n 3, 1) := by decide +kernel
theorem dX6_depth_32 : decode cX6_depth 32 = .ok (.iinc 4 1, 3) := by decide +kernel
theorem dX6_depth_35 : decode cX6_depth 35 = .ok (.goto (-28), 3) := by decide +kernel
theorem dX6_depth_38 : decode cX6_depth 38 = .ok (.iload_n 2, 1) := by decide +kernel
theorem dX6_depth_39 : decode cX6_depth 39 = .ok (.ireturn, 1) := by decide +kernel
theorem dX6_isTracedTo_0 : decode cX6_isTracedTo 0 = .ok (.iload_n 1, 1) := by decide +kernel
theorem dX6_isTracedTo_1 : decode cX6_isTracedTo 1 = .ok (.istore_n 3, 1) := by decide +kernel
theorem dX6_isTracedTo_2 : decode cX6_isTracedTo 2 = .ok (.iconst 0, 1) := by decide +kernel
theorem dX6_isTracedTo_3 : decode cX6_isTracedTo 3 = .ok (.istore 4, 2) := by decide +kernel
theorem dX6_isTracedTo_5 : decode cX6_isTracedTo 5 = .ok (.iload 4, 2) := by decide +kernel
theorem dX6_isTracedTo_7 : decode cX6_isTracedTo 7 = .ok (.bipush 8, 2) := by decide +kernel
theorem dX6_isTracedTo_9 : decode cX6_isTracedTo 9 = .ok (.if_icmp .ge 31, 3) := by decide +kernel
theorem dX6_isTracedTo_12 : decode cX6_isTracedTo 12 = .ok (.aload_n 0, 1) := by decide +kernel
theorem dX6_isTracedTo_13 : decode cX6_isTracedTo 13 = .ok (.iload_n 3, 1) := by decide +kernel
theorem dX6_isTracedTo_14 : decode cX6_isTracedTo 14 = .ok (.invokevirtual 37, 3) := by decide +kernel
theorem dX6_isTracedTo_17 : decode cX6_isTracedTo 17 = .ok (.ifCond .eq 23, 3) := by decide +kernel
theorem dX6_isTracedTo_20 : decode cX6_isTracedTo 20 = .ok (.iload_n 3, 1) := by decide +kernel
theorem dX6_isTracedTo_21 : decode cX6_isTracedTo 21 = .ok (.iload_n 2, 1) := by decide +kernel
theorem dX6_isTracedTo_22 : decode cX6_isTracedTo 22 = .ok (.if_icmp .ne 5, 3) := by decide +kernel
theorem dX6_isTracedTo_25 : decode cX6_isTracedTo 25 = .ok (.iconst 1, 1) := by decide +kernel
theorem dX6_isTracedTo_26 : decode cX6_isTracedTo 26 = .ok (.ireturn, 1) := by decide +kernel
theorem dX6_isTracedTo_27 : decode cX6_isTracedTo 27 = .ok (.aload_n 0, 1) := by decide +kernel
theorem dX6_isTracedTo_28 : decode cX6_isTracedTo 28 = .ok (.getfield 21, 3) := by decide +kernel
theorem dX6_isTracedTo_31 : decode cX6_isTracedTo 31 = .ok (.iload_n 3, 1) := by decide +kernel
theorem dX6_isTracedTo_32 : decode cX6_isTracedTo 32 = .ok (.iaload, 1) := by decide +kernel
theorem dX6_isTracedTo_33 : decode cX6_isTracedTo 33 = .ok (.istore_n 3, 1) := by decide +kernel
theorem dX6_isTracedTo_34 : decode cX6_isTracedTo 34 = .ok (.iinc 4 1, 3) := by decide +kernel
theorem dX6_isTracedTo_37 : decode cX6_isTracedTo 37 = .ok (.goto (-32), 3) := by decide +kernel
theorem dX6_isTracedTo_40 : decode cX6_isTracedTo 40 = .ok (.iconst 0, 1) := by decide +kernel
theorem dX6_isTracedTo_41 : decode cX6_isTracedTo 41 = .ok (.ireturn, 1) := by decide +kernel
theorem dX6_numberTracedTo_0 : decode cX6_numberTracedTo 0 = .ok (.iconst 0, 1) := by decide +kernel
theorem dX6_numberTracedTo_1 : decode cX6_numberTracedTo 1 = .ok (.istore_n 2, 1) := by decide +kernel
theorem dX6_numberTracedTo_2 : decode cX6_numberTracedTo 2 = .ok (.iconst 0, 1) := by decide +kernel
theorem dX6_numberTracedTo_3 : decode cX6_numberTracedTo 3 = .ok (.istore_n 3, 1) := by decide +kernel
theorem dX6_numberTracedTo_4 : decode cX6_numberTracedTo 4 = .ok (.iload_n 3, 1) := by decide +kernel
theorem dX6_numberTracedTo_5 : decode cX6_numberTracedTo 5 = .ok (.aload_n 0, 1) := by decide +kernel
theorem dX6_numberTracedTo_6 : decode cX6_numberTracedTo 6 = .ok (.getfield 27, 3) := by decide +kernel
theorem dX6_numberTracedTo_9 : decode cX6_numberTracedTo 9 = .ok (.if_icmp .ge 21, 3) := by decide +kernel
theorem dX6_numberTracedTo_12 : decode cX6_numberTracedTo 12 = .ok (.aload_n 0, 1) := by decide +kernel
theorem dX6_numberTracedTo_13 : decode cX6_numberTracedTo 13 = .ok (.iload_n 3, 1) := by decide +kernel
theorem dX6_numberTracedTo_14 : decode cX6_numberTracedTo 14 = .ok (.iload_n 1, 1) := by decide +kernel
theorem dX6_numberTracedTo_15 : decode cX6_numberTracedTo 15 = .ok (.invokevirtual 49, 3) := by decide +kernel
theorem dX6_numberTracedTo_18 : decode cX6_numberTracedTo 18 = .ok (.ifCond .eq 6, 3) := by decide +kernel
theorem dX6_numberTracedTo_21 : decode cX6_numberTracedTo 21 = .ok (.iinc 2 1, 3) := by decide +kernel
theorem dX6_numberTracedTo_24 : decode cX6_numberTracedTo 24 = .ok (.iinc 3 1, 3) := by decide +kernel
theorem dX6_numberTracedTo_27 : decode cX6_numberTracedTo 27 = .ok (.goto (-23), 3) := by decide +kernel
theorem dX6_numberTracedTo_30 : decode cX6_numberTracedTo 30 = .ok (.iload_n 2, 1) := by decide +kernel
theorem dX6_numberTracedTo_31 : decode cX6_numberTracedTo 31 = .ok (.ireturn, 1) := by decide +kernel
theorem dX6_property_0 : decode cX6_property 0 = .ok (.aload_n 0, 1) := by decide +kernel
theorem dX6_property_1 : decode cX6_property 1 = .ok (.iload_n 1, 1) := by decide +kernel
theorem dX6_property_2 : decode cX6_property 2 = .ok (.invokevirtual 37, 3) := by decide +kernel
theorem dX6_property_5 : decode cX6_property 5 = .ok (.ifCond .ne 6, 3) := by decide +kernel
theorem dX6_property_8 : decode cX6_property 8 = .ok (.ldc 53, 2) := by decide +kernel
theorem dX6_property_10 : decode cX6_property 10 = .ok (.ireturn, 1) := by decide +kernel
theorem dX6_property_11 : decode cX6_property 11 = .ok (.iload_n 2, 1) := by decide +kernel
theorem dX6_property_12 : decode cX6_property 12 = .ok (.tableswitch 105 0 7 #[48, 55, 62, 69, 76, 83, 93, 99], 48) := by decide +kernel
theorem dX6_property_60 : decode cX6_property 60 = .ok (.aload_n 0, 1) := by decide +kernel
theorem dX6_property_61 : decode cX6_property 61 = .ok (.getfield 9, 3) := by decide +kernel
theorem dX6_property_64 : decode cX6_property 64 = .ok (.iload_n 1, 1) := by decide +kernel
theorem dX6_property_65 : decode cX6_property 65 = .ok (.iaload, 1) := by decide +kernel
theorem dX6_property_66 : decode cX6_property 66 = .ok (.ireturn, 1) := by decide +kernel
theorem dX6_property_67 : decode cX6_property 67 = .ok (.aload_n 0, 1) := by decide +kernel
theorem dX6_property_68 : decode cX6_property 68 = .ok (.getfield 15, 3) := by decide +kernel
theorem dX6_property_71 : decode cX6_property 71 = .ok (.iload_n 1, 1) := by decide +kernel
theorem dX6_property_72 : decode cX6_property 72 = .ok (.iaload, 1) := by decide +kernel
theorem dX6_property_73 : decode cX6_property 73 = .ok (.ireturn, 1) := by decide +kernel
theorem dX6_property_74 : decode cX6_property 74 = .ok (.aload_n 0, 1) := by decide +kernel
theorem dX6_property_75 : decode cX6_property 75 = .ok (.getfield 18, 3) := by decide +kernel
theorem dX6_property_78 : decode cX6_property 78 = .ok (.iload_n 1, 1) := by decide +kernel
theorem dX6_property_79 : decode cX6_property 79 = .ok (.iaload, 1) := by decide +kernel
theorem dX6_property_80 : decode cX6_property 80 = .ok (.ireturn, 1) := by decide +kernel
theorem dX6_property_81 : decode cX6_property 81 = .ok (.aload_n 0, 1) := by decide +kernel
theorem dX6_property_82 : decode cX6_property 82 = .ok (.getfield 21, 3) := by decide +kernel
theorem dX6_property_85 : decode cX6_property 85 = .ok (.iload_n 1, 1) := by decide +kernel
theorem dX6_property_86 : decode cX6_property 86 = .ok (.iaload, 1) := by decide +kernel
theorem dX6_property_87 : decode cX6_property 87 = .ok (.ireturn, 1) := by decide +kernel
theorem dX6_property_88 : decode cX6_property 88 = .ok (.aload_n 0, 1) := by decide +kernel
theorem dX6_property_89 : decode cX6_property 89 = .ok (.getfield 24, 3) := by decide +kernel
theorem dX6_property_92 : decode cX6_property 92 = .ok (.iload_n 1, 1) := by decide +kernel
theorem dX6_property_93 : decode cX6_property 93 = .ok (.iaload, 1) := by decide +kernel
theorem dX6_property_94 : decode cX6_property 94 = .ok (.ireturn, 1) := by decide +kernel
theorem dX6_property_95 : decode cX6_property 95 = .ok (.aload_n 0, 1) := by decide +kernel
theorem dX6_property_96 : decode cX6_property 96 = .ok (.aload_n 0, 1) := by decide +kernel
theorem dX6_property_97 : decode cX6_property 97 = .ok (.getfield 15, 3) := by decide +kernel
theorem dX6_property_100 : decode cX6_property 100 = .ok (.iload_n 1, 1) := by decide +kernel
theorem dX6_property_101 : decode cX6_property 101 = .ok (.invokevirtual 45, 3) := by decide +kernel
theorem dX6_property_104 : decode cX6_property 104 = .ok (.ireturn, 1) := by decide +kernel
theorem dX6_property_105 : decode cX6_property 105 = .ok (.aload_n 0, 1) := by decide +kernel
theorem dX6_property_106 : decode cX6_property 106 = .ok (.iload_n 1, 1) := by decide +kernel
theorem dX6_property_107 : decode cX6_property 107 = .ok (.invokevirtual 54, 3) := by decide +kernel
theorem dX6_property_110 : decode cX6_property 110 = .ok (.ireturn, 1) := by decide +kernel
theorem dX6_property_111 : decode cX6_property 111 = .ok (.aload_n 0, 1) := by decide +kernel
theorem dX6_property_112 : decode cX6_property 112 = .ok (.iload_n 1, 1) := by decide +kernel
theorem dX6_property_113 : decode cX6_property 113 = .ok (.invokevirtual 58, 3) := by decide +kernel
theorem dX6_property_116 : decode cX6_property 116 = .ok (.ireturn, 1) := by decide +kernel
theorem dX6_property_117 : decode cX6_property 117 = .ok (.aload_n 0, 1) := by decide +kernel
theorem dX6_property_118 : decode cX6_property 118 = .ok (.iload_n 1, 1) := by decide +kernel
theorem dX6_property_119 : decode cX6_property 119 = .ok (.invokevirtual 61, 3) := by decide +kernel
theorem dX6_property_122 : decode cX6_property 122 = .ok (.ireturn, 1) := by decide +kernel
theorem dX6_isInSet_0 : decode cX6_isInSet 0 = .ok (.iload_n 0, 1) := by decide +kernel
theorem dX6_isInSet_1 : decode cX6_isInSet 1 = .ok (.iload_n 1, 1) := by decide +kernel
theorem dX6_isInSet_2 : decode cX6_isInSet 2 = .ok (.ishr, 1) := by decide +kernel
theorem dX6_isInSet_3 : decode cX6_isInSet 3 = .ok (.iconst 1, 1) := by decide +kernel
theorem dX6_isInSet_4 : decode cX6_isInSet 4 = .ok (.iand, 1) := by decide +kernel
theorem dX6_isInSet_5 : decode cX6_isInSet 5 = .ok (.ifCond .eq 7, 3) := by decide +kernel
theorem dX6_isInSet_8 : decode cX6_isInSet 8 = .ok (.iconst 1, 1) := by decide +kernel
theorem dX6_isInSet_9 : decode cX6_isInSet 9 = .ok (.goto 4, 3) := by decide +kernel
theorem dX6_isInSet_12 : decode cX6_isInSet 12 = .ok (.iconst 0, 1) := by decide +kernel
theorem dX6_isInSet_13 : decode cX6_isInSet 13 = .ok (.ireturn, 1) := by decide +kernel
theorem dX6_errorOfSet_0 : decode cX6_errorOfSet 0 = .ok (.iload_n 1, 1) := by decide +kernel
theorem dX6_errorOfSet_1 : decode cX6_errorOfSet 1 = .ok (.ifCond .le 21, 3) := by decide +kernel
theorem dX6_errorOfSet_4 : decode cX6_errorOfSet 4 = .ok (.iload_n 1, 1) := by decide +kernel
theorem dX6_errorOfSet_5 : decode cX6_errorOfSet 5 = .ok (.iconst 1, 1) := by decide +kernel
theorem dX6_errorOfSet_6 : decode cX6_errorOfSet 6 = .ok (.aload_n 0, 1) := by decide +kernel
theorem dX6_errorOfSet_7 : decode cX6_errorOfSet 7 = .ok (.getfield 27, 3) := by decide +kernel
theorem dX6_errorOfSet_10 : decode cX6_errorOfSet 10 = .ok (.ishl, 1) := by decide +kernel
theorem dX6_errorOfSet_11 : decode cX6_errorOfSet 11 = .ok (.if_icmp .ge 11, 3) := by decide +kernel
theorem dX6_errorOfSet_14 : decode cX6_errorOfSet 14 = .ok (.iload_n 1, 1) := by decide +kernel
theorem dX6_errorOfSet_15 : decode cX6_errorOfSet 15 = .ok (.invokestatic 64, 3) := by decide +kernel
theorem dX6_errorOfSet_18 : decode cX6_errorOfSet 18 = .ok (.iconst 5, 1) := by decide +kernel
theorem dX6_errorOfSet_19 : decode cX6_errorOfSet 19 = .ok (.if_icmp .le 6, 3) := by decide +kernel
theorem dX6_errorOfSet_22 : decode cX6_errorOfSet 22 = .ok (.ldc 53, 2) := by decide +kernel
theorem dX6_errorOfSet_24 : decode cX6_errorOfSet 24 = .ok (.ireturn, 1) := by decide +kernel
theorem dX6_errorOfSet_25 : decode cX6_errorOfSet 25 = .ok (.iconst 0, 1) := by decide +kernel
theorem dX6_errorOfSet_26 : decode cX6_errorOfSet 26 = .ok (.istore_n 2, 1) := by decide +kernel
theorem dX6_errorOfSet_27 : decode cX6_errorOfSet 27 = .ok (.iconst 0, 1) := by decide +kernel
theorem dX6_errorOfSet_28 : decode cX6_errorOfSet 28 = .ok (.istore_n 3, 1) := by decide +kernel
theorem dX6_errorOfSet_29 : decode cX6_errorOfSet 29 = .ok (.iload_n 3, 1) := by decide +kernel
theorem dX6_errorOfSet_30 : decode cX6_errorOfSet 30 = .ok (.aload_n 0, 1) := by decide +kernel
theorem dX6_errorOfSet_31 : decode cX6_errorOfSet 31 = .ok (.getfield 27, 3) := by decide +kernel
theorem dX6_errorOfSet_34 : decode cX6_errorOfSet 34 = .ok (.if_icmp .ge 38, 3) := by decide +kernel
theorem dX6_errorOfSet_37 : decode cX6_errorOfSet 37 = .ok (.iload_n 1, 1) := by decide +kernel
theorem dX6_errorOfSet_38 : decode cX6_errorOfSet 38 = .ok (.iload_n 3, 1) := by decide +kernel
theorem dX6_errorOfSet_39 : decode cX6_errorOfSet 39 = .ok (.invokestatic 69, 3) := by decide +kernel
theorem dX6_errorOfSet_42 : decode cX6_errorOfSet 42 = .ok (.ifCond .eq 24, 3) := by decide +kernel
theorem dX6_errorOfSet_45 : decode cX6_errorOfSet 45 = .ok (.aload_n 0, 1) := by decide +kernel
theorem dX6_errorOfSet_46 : decode cX6_errorOfSet 46 = .ok (.getfield 24, 3) := by decide +kernel
theorem dX6_errorOfSet_49 : decode cX6_errorOfSet 49 = .ok (.iload_n 3, 1) := by decide +kernel
theorem dX6_errorOfSet_50 : decode cX6_errorOfSet 50 = .ok (.iaload, 1) := by decide +kernel
theorem dX6_errorOfSet_51 : decode cX6_errorOfSet 51 = .ok (.ifCond .eq 6, 3) := by decide +kernel
theorem dX6_errorOfSet_54 : decode cX6_errorOfSet 54 = .ok (.ldc 72, 2) := by decide +kernel
theorem dX6_errorOfSet_56 : decode cX6_errorOfSet 56 = .ok (.ireturn, 1) := by decide +kernel
theorem dX6_errorOfSet_57 : decode cX6_errorOfSet 57 = .ok (.iload_n 2, 1) := by decide +kernel
theorem dX6_errorOfSet_58 : decode cX6_errorOfSet 58 = .ok (.aload_n 0, 1) := by decide +kernel
theorem dX6_errorOfSet_59 : decode cX6_errorOfSet 59 = .ok (.getfield 9, 3) := by decide +kernel
theorem dX6_errorOfSet_62 : decode cX6_errorOfSet 62 = .ok (.iload_n 3, 1) := by decide +kernel
theorem dX6_errorOfSet_63 : decode cX6_errorOfSet 63 = .ok (.iaload, 1) := by decide +kernel
theorem dX6_errorOfSet_64 : decode cX6_errorOfSet 64 = .ok (.iadd, 1) := by decide +kernel
theorem dX6_errorOfSet_65 : decode cX6_errorOfSet 65 = .ok (.istore_n 2, 1) := by decide +kernel
theorem dX6_errorOfSet_66 : decode cX6_errorOfSet 66 = .ok (.iinc 3 1, 3) := by decide +kernel
theorem dX6_errorOfSet_69 : decode cX6_errorOfSet 69 = .ok (.goto (-40), 3) := by decide +kernel
theorem dX6_errorOfSet_72 : decode cX6_errorOfSet 72 = .ok (.iload_n 2, 1) := by decide +kernel
theorem dX6_errorOfSet_73 : decode cX6_errorOfSet 73 = .ok (.sipush 1000, 3) := by decide +kernel
theorem dX6_errorOfSet_76 : decode cX6_errorOfSet 76 = .ok (.if_icmp .le 8, 3) := by decide +kernel
theorem dX6_errorOfSet_79 : decode cX6_errorOfSet 79 = .ok (.ldc 72, 2) := by decide +kernel
theorem dX6_errorOfSet_81 : decode cX6_errorOfSet 81 = .ok (.goto 4, 3) := by decide +kernel
theorem dX6_errorOfSet_84 : decode cX6_errorOfSet 84 = .ok (.iconst 0, 1) := by decide +kernel
theorem dX6_errorOfSet_85 : decode cX6_errorOfSet 85 = .ok (.ireturn, 1) := by decide +kernel
theorem dX7_init_0 : decode cX7_init 0 = .ok (.aload_n 0, 1) := by decide +kernel
theorem dX7_init_1 : decode cX7_init 1 = .ok (.invokespecial 3, 3) := by decide +kernel
theorem dX7_init_4 : decode cX7_init 4 = .ok (.aload_n 0, 1) := by decide +kernel
theorem dX7_init_5 : decode cX7_init 5 = .ok (.new 9, 3) := by decide +kernel
theorem dX7_init_8 : decode cX7_init 8 = .ok (.dup, 1) := by decide +kernel
theorem dX7_init_9 : decode cX7_init 9 = .ok (.invokespecial 11, 3) := by decide +kernel
theorem dX7_init_12 : decode cX7_init 12 = .ok (.putfield 12, 3) := by decide +kernel
theorem dX7_init_15 : decode cX7_init 15 = .ok (.aload_n 0, 1) := by decide +kernel
theorem dX7_init_16 : decode cX7_init 16 = .ok (.new 16, 3) := by decide +kernel
theorem dX7_init_19 : decode cX7_init 19 = .ok (.dup, 1) := by decide +kernel
theorem dX7_init_20 : decode cX7_init 20 = .ok (.invokespecial 18, 3) := by decide +kernel
theorem dX7_init_23 : decode cX7_init 23 = .ok (.putfield 19, 3) := by decide +kernel
theorem dX7_init_26 : decode cX7_init 26 = .ok (.aload_n 0, 1) := by decide +kernel
theorem dX7_init_27 : decode cX7_init 27 = .ok (.new 23, 3) := by decide +kernel
theorem dX7_init_30 : decode cX7_init 30 = .ok (.dup, 1) := by decide +kernel
theorem dX7_init_31 : decode cX7_init 31 = .ok (.invokespecial 25, 3) := by decide +kernel
theorem dX7_init_34 : decode cX7_init 34 = .ok (.putfield 26, 3) := by decide +kernel
theorem dX7_init_37 : decode cX7_init 37 = .ok (.aload_n 0, 1) := by decide +kernel
theorem dX7_init_38 : decode cX7_init 38 = .ok (.new 30, 3) := by decide +kernel
theorem dX7_init_41 : decode cX7_init 41 = .ok (.dup, 1) := by decide +kernel
theorem dX7_init_42 : decode cX7_init 42 = .ok (.invokespecial 32, 3) := by decide +kernel
theorem dX7_init_45 : decode cX7_init 45 = .ok (.putfield 33, 3) := by decide +kernel
theorem dX7_init_48 : decode cX7_init 48 = .ok (.return_, 1) := by decide +kernel
theorem dX7_setLoad_0 : decode cX7_setLoad 0 = .ok (.iload_n 1, 1) := by decide +kernel
theorem dX7_setLoad_1 : decode cX7_setLoad 1 = .ok (.iconst 0, 1) := by decide +kernel
theorem dX7_setLoad_2 : decode cX7_setLoad 2 = .ok (.sipush 1000, 3) := by decide +kernel
theorem dX7_setLoad_5 : decode cX7_setLoad 5 = .ok (.invokestatic 37, 3) := by decide +kernel
theorem dX7_setLoad_8 : decode cX7_setLoad 8 = .ok (.ifCond .eq 6, 3) := by decide +kernel
theorem dX7_setLoad_11 : decode cX7_setLoad 11 = .ok (.ldc 41, 2) := by decide +kernel
theorem dX7_setLoad_13 : decode cX7_setLoad 13 = .ok (.ireturn, 1) := by decide +kernel
theorem dX7_setLoad_14 : decode cX7_setLoad 14 = .ok (.aload_n 0, 1) := by decide +kernel
theorem dX7_setLoad_15 : decode cX7_setLoad 15 = .ok (.getfield 12, 3) := by decide +kernel
theorem dX7_setLoad_18 : decode cX7_setLoad 18 = .ok (.iload_n 1, 1) := by decide +kernel
theorem dX7_setLoad_19 : decode cX7_setLoad 19 = .ok (.invokevirtual 42, 3) := by decide +kernel
theorem dX7_setLoad_22 : decode cX7_setLoad 22 = .ok (.invokestatic 46, 3) := by decide +kernel
theorem dX7_setLoad_25 : decode cX7_setLoad 25 = .ok (.istore_n 2, 1) := by decide +kernel
theorem dX7_setLoad_26 : decode cX7_setLoad 26 = .ok (.iload_n 2, 1) := by decide +kernel
theorem dX7_setLoad_27 : decode cX7_setLoad 27 = .ok (.ifCond .eq 5, 3) := by decide +kernel
theorem dX7_setLoad_30 : decode cX7_setLoad 30 = .ok (.iload_n 2, 1) := by decide +kernel
theorem dX7_setLoad_31 : decode cX7_setLoad 31 = .ok (.ireturn, 1) := by decide +kernel
theorem dX7_setLoad_32 : decode cX7_setLoad 32 = .ok (.aload_n 0, 1) := by decide +kernel
theorem dX7_setLoad_33 : decode cX7_setLoad 33 = .ok (.getfield 19, 3) := by decide +kernel
theorem dX7_setLoad_36 : decode cX7_setLoad 36 = .ok (.aload_n 0, 1) := by decide +kernel
theorem dX7_setLoad_37 : decode cX7_setLoad 37 = .ok (.getfield 12, 3) := by decide +kernel
theorem dX7_setLoad_40 : decode cX7_setLoad 40 = .ok (.invokevirtual 49, 3) := by decide +kernel
theorem dX7_setLoad_43 : decode cX7_setLoad 43 = .ok (.aload_n 0, 1) := by decide +kernel
theorem dX7_setLoad_44 : decode cX7_setLoad 44 = .ok (.getfield 12, 3) := by decide +kernel
theorem dX7_setLoad_47 : decode cX7_setLoad 47 = .ok (.getfield 53, 3) := by decide +kernel
theorem dX7_setLoad_50 : decode cX7_setLoad 50 = .ok (.iload_n 1, 1) := by decide +kernel
theorem dX7_setLoad_51 : decode cX7_setLoad 51 = .ok (.invokevirtual 57, 3) := by decide +kernel
theorem dX7_setLoad_54 : decode cX7_setLoad 54 = .ok (.aload_n 0, 1) := by decide +kernel
theorem dX7_setLoad_55 : decode cX7_setLoad 55 = .ok (.getfield 12, 3) := by decide +kernel
theorem dX7_setLoad_58 : decode cX7_setLoad 58 = .ok (.invokevirtual 63, 3) := by decide +kernel
theorem dX7_setLoad_61 : decode cX7_setLoad 61 = .ok (.ireturn, 1) := by decide +kernel
theorem dX7_put_0 : decode cX7_put 0 = .ok (.aload_n 0, 1) := by decide +kernel
theorem dX7_put_1 : decode cX7_put 1 = .ok (.getfield 12, 3) := by decide +kernel
theorem dX7_put_4 : decode cX7_put 4 = .ok (.iload_n 1, 1) := by decide +kernel
theorem dX7_put_5 : decode cX7_put 5 = .ok (.invokevirtual 67, 3) := by decide +kernel
theorem dX7_put_8 : decode cX7_put 8 = .ok (.invokestatic 46, 3) := by decide +kernel
theorem dX7_put_11 : decode cX7_put 11 = .ok (.istore_n 2, 1) := by decide +kernel
theorem dX7_put_12 : decode cX7_put 12 = .ok (.iload_n 2, 1) := by decide +kernel
theorem dX7_put_13 : decode cX7_put 13 = .ok (.ifCond .eq 5, 3) := by decide +kernel
theorem dX7_put_16 : decode cX7_put 16 = .ok (.iload_n 2, 1) := by decide +kernel
theorem dX7_put_17 : decode cX7_put 17 = .ok (.ireturn, 1) := by decide +kernel
theorem dX7_put_18 : decode cX7_put 18 = .ok (.aload_n 0, 1) := by decide +kernel
theorem dX7_put_19 : decode cX7_put 19 = .ok (.getfield 19, 3) := by decide +kernel
theorem dX7_put_22 : decode cX7_put 22 = .ok (.aload_n 0, 1) := by decide +kernel
theorem dX7_put_23 : decode cX7_put 23 = .ok (.getfield 12, 3) := by decide +kernel
theorem dX7_put_26 : decode cX7_put 26 = .ok (.invokevirtual 49, 3) := by decide +kernel
theorem dX7_put_29 : decode cX7_put 29 = .ok (.aload_n 0, 1) := by decide +kernel
theorem dX7_put_30 : decode cX7_put 30 = .ok (.getfield 12, 3) := by decide +kernel
theorem dX7_put_33 : decode cX7_put 33 = .ok (.iload_n 1, 1) := by decide +kernel
theorem dX7_put_34 : decode cX7_put 34 = .ok (.invokevirtual 70, 3) := by decide +kernel
theorem dX7_put_37 : decode cX7_put 37 = .ok (.aload_n 0, 1) := by decide +kernel
theorem dX7_put_38 : decode cX7_put 38 = .ok (.getfield 12, 3) := by decide +kernel
theorem dX7_put_41 : decode cX7_put 41 = .ok (.invokevirtual 63, 3) := by decide +kernel
theorem dX7_put_44 : decode cX7_put 44 = .ok (.ireturn, 1) := by decide +kernel
theorem dX7_take_0 : decode cX7_take 0 = .ok (.aload_n 0, 1) := by decide +kernel
theorem dX7_take_1 : decode cX7_take 1 = .ok (.getfield 12, 3) := by decide +kernel
theorem dX7_take_4 : decode cX7_take 4 = .ok (.iload_n 1, 1) := by decide +kernel
theorem dX7_take_5 : decode cX7_take 5 = .ok (.invokevirtual 73, 3) := by decide +kernel
theorem dX7_take_8 : decode cX7_take 8 = .ok (.invokestatic 46, 3) := by decide +kernel
theorem dX7_take_11 : decode cX7_take 11 = .ok (.istore_n 2, 1) := by decide +kernel
theorem dX7_take_12 : decode cX7_take 12 = .ok (.iload_n 2, 1) := by decide +kernel
theorem dX7_take_13 : decode cX7_take 13 = .ok (.ifCond .eq 5, 3) := by decide +kernel
theorem dX7_take_16 : decode cX7_take 16 = .ok (.iload_n 2, 1) := by decide +kernel
theorem dX7_take_17 : decode cX7_take 17 = .ok (.ireturn, 1) := by decide +kernel
theorem dX7_take_18 : decode cX7_take 18 = .ok (.aload_n 0, 1) := by decide +kernel
theorem dX7_take_19 : decode cX7_take 19 = .ok (.getfield 19, 3) := by decide +kernel
theorem dX7_take_22 : decode cX7_take 22 = .ok (.aload_n 0, 1) := by decide +kernel
theorem dX7_take_23 : decode cX7_take 23 = .ok (.getfield 12, 3) := by decide +kernel
theorem dX7_take_26 : decode cX7_take 26 = .ok (.invokevirtual 49, 3) := by decide +kernel
theorem dX7_take_29 : decode cX7_take 29 = .ok (.aload_n 0, 1) := by decide +kernel
theorem dX7_take_30 : decode cX7_take 30 = .ok (.getfield 12, 3) := by decide +kernel
theorem dX7_take_33 : decode cX7_take 33 = .ok (.iload_n 1, 1) := by decide +kernel
theorem dX7_take_34 : decode cX7_take 34 = .ok (.invokevirtual 76, 3) := by decide +kernel
theorem dX7_take_37 : decode cX7_take 37 = .ok (.aload_n 0, 1) := by decide +kernel
theorem dX7_take_38 : decode cX7_take 38 = .ok (.getfield 12, 3) := by decide +kernel
theorem dX7_take_41 : decode cX7_take 41 = .ok (.invokevirtual 63, 3) := by decide +kernel
theorem dX7_take_44 : decode cX7_take 44 = .ok (.ireturn, 1) := by decide +kernel
theorem dX7_hours_0 : decode cX7_hours 0 = .ok (.iload_n 1, 1) := by decide +kernel
theorem dX7_hours_1 : decode cX7_hours 1 = .ok (.iconst 1, 1) := by decide +kernel
theorem dX7_hours_2 : decode cX7_hours 2 = .ok (.sipush 200, 3) := by decide +kernel
theorem dX7_hours_5 : decode cX7_hours 5 = .ok (.invokestatic 37, 3) := by decide +kernel
theorem dX7_hours_8 : decode cX7_hours 8 = .ok (.ifCond .eq 6, 3) := by decide +kernel
theorem dX7_hours_11 : decode cX7_hours 11 = .ok (.ldc 41, 2) := by decide +kernel
theorem dX7_hours_13 : decode cX7_hours 13 = .ok (.ireturn, 1) := by decide +kernel
theorem dX7_hours_14 : decode cX7_hours 14 = .ok (.aload_n 0, 1) := by decide +kernel
theorem dX7_hours_15 : decode cX7_hours 15 = .ok (.getfield 19, 3) := by decide +kernel
theorem dX7_hours_18 : decode cX7_hours 18 = .ok (.aload_n 0, 1) := by decide +kernel
theorem dX7_hours_19 : decode cX7_hours 19 = .ok (.getfield 12, 3) := by decide +kernel
theorem dX7_hours_22 : decode cX7_hours 22 = .ok (.invokevirtual 49, 3) := by decide +kernel
theorem dX7_hours_25 : decode cX7_hours 25 = .ok (.aload_n 0, 1) := by decide +kernel
theorem dX7_hours_26 : decode cX7_hours 26 = .ok (.getfield 12, 3) := by decide +kernel
theorem dX7_hours_29 : decode cX7_hours 29 = .ok (.getfield 53, 3) := by decide +kernel
theorem dX7_hours_32 : decode cX7_hours 32 = .ok (.iload_n 1, 1) := by decide +kernel
theorem dX7_hours_33 : decode cX7_hours 33 = .ok (.invokevirtual 79, 3) := by decide +kernel
theorem dX7_hours_36 : decode cX7_hours 36 = .ok (.aload_n 0, 1) := by decide +kernel
theorem dX7_hours_37 : decode cX7_hours 37 = .ok (.getfield 12, 3) := by decide +kernel
theorem dX7_hours_40 : decode cX7_hours 40 = .ok (.getfield 53, 3) := by decide +kernel
theorem dX7_hours_43 : decode cX7_hours 43 = .ok (.getfield 82, 3) := by decide +kernel
theorem dX7_hours_46 : decode cX7_hours 46 = .ok (.ireturn, 1) := by decide +kernel
theorem dX7_zero_0 : decode cX7_zero 0 = .ok (.aload_n 0, 1) := by decide +kernel
theorem dX7_zero_1 : decode cX7_zero 1 = .ok (.getfield 12, 3) := by decide +kernel
theorem dX7_zero_4 : decode cX7_zero 4 = .ok (.invokevirtual 86, 3) := by decide +kernel
theorem dX7_zero_7 : decode cX7_zero 7 = .ok (.invokestatic 46, 3) := by decide +kernel
theorem dX7_zero_10 : decode cX7_zero 10 = .ok (.istore_n 1, 1) := by decide +kernel
theorem dX7_zero_11 : decode cX7_zero 11 = .ok (.iload_n 1, 1) := by decide +kernel
theorem dX7_zero_12 : decode cX7_zero 12 = .ok (.ifCond .eq 5, 3) := by decide +kernel
theorem dX7_zero_15 : decode cX7_zero 15 = .ok (.iload_n 1, 1) := by decide +kernel
theorem dX7_zero_16 : decode cX7_zero 16 = .ok (.ireturn, 1) := by decide +kernel
theorem dX7_zero_17 : decode cX7_zero 17 = .ok (.aload_n 0, 1) := by decide +kernel
theorem dX7_zero_18 : decode cX7_zero 18 = .ok (.getfield 19, 3) := by decide +kernel
theorem dX7_zero_21 : decode cX7_zero 21 = .ok (.aload_n 0, 1) := by decide +kernel
theorem dX7_zero_22 : decode cX7_zero 22 = .ok (.getfield 12, 3) := by decide +kernel
theorem dX7_zero_25 : decode cX7_zero 25 = .ok (.invokevirtual 49, 3) := by decide +kernel
theorem dX7_zero_28 : decode cX7_zero 28 = .ok (.aload_n 0, 1) := by decide +kernel
theorem dX7_zero_29 : decode cX7_zero 29 = .ok (.getfield 12, 3) := by decide +kernel
theorem dX7_zero_32 : decode cX7_zero 32 = .ok (.getfield 53, 3) := by decide +kernel
theorem dX7_zero_35 : decode cX7_zero 35 = .ok (.getfield 89, 3) := by decide +kernel
theorem dX7_zero_38 : decode cX7_zero 38 = .ok (.getfield 93, 3) := by decide +kernel
theorem dX7_zero_41 : decode cX7_zero 41 = .ok (.istore_n 2, 1) := by decide +kernel
theorem dX7_zero_42 : decode cX7_zero 42 = .ok (.aload_n 0, 1) := by decide +kernel
theorem dX7_zero_43 : decode cX7_zero 43 = .ok (.getfield 12, 3) := by decide +kernel
theorem dX7_zero_46 : decode cX7_zero 46 = .ok (.getfield 53, 3) := by decide +kernel
theorem dX7_zero_49 : decode cX7_zero 49 = .ok (.invokevirtual 98, 3) := by decide +kernel
theorem dX7_zero_52 : decode cX7_zero 52 = .ok (.iload_n 2, 1) := by decide +kernel
theorem dX7_zero_53 : decode cX7_zero 53 = .ok (.ireturn, 1) := by decide +kernel
theorem dX7_undo_0 : decode cX7_undo 0 = .ok (.aload_n 0, 1) := by decide +kernel
theorem dX7_undo_1 : decode cX7_undo 1 = .ok (.getfield 19, 3) := by decide +kernel
theorem dX7_undo_4 : decode cX7_undo 4 = .ok (.getfield 101, 3) := by decide +kernel
theorem dX7_undo_7 : decode cX7_undo 7 = .ok (.ifCond .ne 6, 3) := by decide +kernel
theorem dX7_undo_10 : decode cX7_undo 10 = .ok (.ldc 102, 2) := by decide +kernel
theorem dX7_undo_12 : decode cX7_undo 12 = .ok (.ireturn, 1) := by decide +kernel
theorem dX7_undo_13 : decode cX7_undo 13 = .ok (.aload_n 0, 1) := by decide +kernel
theorem dX7_undo_14 : decode cX7_undo 14 = .ok (.getfield 19, 3) := by decide +kernel
theorem dX7_undo_17 : decode cX7_undo 17 = .ok (.aload_n 0, 1) := by decide +kernel
theorem dX7_undo_18 : decode cX7_undo 18 = .ok (.getfield 12, 3) := by decide +kernel
theorem dX7_undo_21 : decode cX7_undo 21 = .ok (.invokevirtual 103, 3) := by decide +kernel
theorem dX7_undo_24 : decode cX7_undo 24 = .ok (.aload_n 0, 1) := by decide +kernel
theorem dX7_undo_25 : decode cX7_undo 25 = .ok (.getfield 19, 3) := by decide +kernel
theorem dX7_undo_28 : decode cX7_undo 28 = .ok (.getfield 101, 3) := by decide +kernel
theorem dX7_undo_31 : decode cX7_undo 31 = .ok (.ireturn, 1) := by decide +kernel
theorem dX7_count_0 : decode cX7_count 0 = .ok (.aload_n 0, 1) := by decide +kernel
theorem dX7_count_1 : decode cX7_count 1 = .ok (.getfield 12, 3) := by decide +kernel
theorem dX7_count_4 : decode cX7_count 4 = .ok (.getfield 53, 3) := by decide +kernel
theorem dX7_count_7 : decode cX7_count 7 = .ok (.astore_n 2, 1) := by decide +kernel
theorem dX7_count_8 : decode cX7_count 8 = .ok (.iload_n 1, 1) := by decide +kernel
theorem dX7_count_9 : decode cX7_count 9 = .ok (.tableswitch 192 0 15 #[79, 84, 89, 94, 99, 107, 115, 120, 131, 142, 150, 158, 166, 177, 182, 187], 79) := by decide +kernel
theorem dX7_count_88 : decode cX7_count 88 = .ok (.aload_n 2, 1) := by decide +kernel
theorem dX7_count_89 : decode cX7_count 89 = .ok (.getfield 106, 3) := by decide +kernel
theorem dX7_count_92 : decode cX7_count 92 = .ok (.ireturn, 1) := by decide +kernel
theorem dX7_count_93 : decode cX7_count 93 = .ok (.aload_n 2, 1) := by decide +kernel
theorem dX7_count_94 : decode cX7_count 94 = .ok (.getfield 109, 3) := by decide +kernel
theorem dX7_count_97 : decode cX7_count 97 = .ok (.ireturn, 1) := by decide +kernel
theorem dX7_count_98 : decode cX7_count 98 = .ok (.aload_n 2, 1) := by decide +kernel
theorem dX7_count_99 : decode cX7_count 99 = .ok (.getfield 82, 3) := by decide +kernel
theorem dX7_count_102 : decode cX7_count 102 = .ok (.ireturn, 1) := by decide +kernel
theorem dX7_count_103 : decode cX7_count 103 = .ok (.aload_n 2, 1) := by decide +kernel
theorem dX7_count_104 : decode cX7_count 104 = .ok (.getfield 112, 3) := by decide +kernel
theorem dX7_count_107 : decode cX7_count 107 = .ok (.ireturn, 1) := by decide +kernel
theorem dX7_count_108 : decode cX7_count 108 = .ok (.aload_n 0, 1) := by decide +kernel
theorem dX7_count_109 : decode cX7_count 109 = .ok (.getfield 12, 3) := by decide +kernel
theorem dX7_count_112 : decode cX7_count 112 = .ok (.invokevirtual 63, 3) := by decide +kernel
theorem dX7_count_115 : decode cX7_count 115 = .ok (.ireturn, 1) := by decide +kernel
theorem dX7_count_116 : decode cX7_count 116 = .ok (.aload_n 2, 1) := by decide +kernel
theorem dX7_count_117 : decode cX7_count 117 = .ok (.getfield 89, 3) := by decide +kernel
theorem dX7_count_120 : decode cX7_count 120 = .ok (.getfield 93, 3) := by decide +kernel
theorem dX7_count_123 : decode cX7_count 123 = .ok (.ireturn, 1) := by decide +kernel
theorem dX7_count_124 : decode cX7_count 124 = .ok (.aload_n 2, 1) := by decide +kernel
theorem dX7_count_125 : decode cX7_count 125 = .ok (.getfield 115, 3) := by decide +kernel
theorem dX7_count_128 : decode cX7_count 128 = .ok (.ireturn, 1) := by decide +kernel
theorem dX7_count_129 : decode cX7_count 129 = .ok (.aload_n 0, 1) := by decide +kernel
theorem dX7_count_130 : decode cX7_count 130 = .ok (.getfield 12, 3) := by decide +kernel
theorem dX7_count_133 : decode cX7_count 133 = .ok (.getfield 118, 3) := by decide +kernel
theorem dX7_count_136 : decode cX7_count 136 = .ok (.getfield 122, 3) := by decide +kernel
theorem dX7_count_139 : decode cX7_count 139 = .ok (.ireturn, 1) := by decide +kernel
theorem dX7_count_140 : decode cX7_count 140 = .ok (.aload_n 0, 1) := by decide +kernel
theorem dX7_count_141 : decode cX7_count 141 = .ok (.getfield 12, 3) := by decide +kernel
theorem dX7_count_144 : decode cX7_count 144 = .ok (.getfield 118, 3) := by decide +kernel
theorem dX7_count_147 : decode cX7_count 147 = .ok (.invokevirtual 125, 3) := by decide +kernel
theorem dX7_count_150 : decode cX7_count 150 = .ok (.ireturn, 1) := by decide +kernel
theorem dX7_count_151 : decode cX7_count 151 = .ok (.aload_n 0, 1) := by decide +kernel
theorem dX7_count_152 : decode cX7_count 152 = .ok (.getfield 19, 3) := by decide +kernel
theorem dX7_count_155 : decode cX7_count 155 = .ok (.getfield 101, 3) := by decide +kernel
theorem dX7_count_158 : decode cX7_count 158 = .ok (.ireturn, 1) := by decide +kernel
theorem dX7_count_159 : decode cX7_count 159 = .ok (.aload_n 0, 1) := by decide +kernel
theorem dX7_count_160 : decode cX7_count 160 = .ok (.getfield 26, 3) := by decide +kernel
theorem dX7_count_163 : decode cX7_count 163 = .ok (.getfield 128, 3) := by decide +kernel
theorem dX7_count_166 : decode cX7_count 166 = .ok (.ireturn, 1) := by decide +kernel
theorem dX7_count_167 : decode cX7_count 167 = .ok (.aload_n 2, 1) := by decide +kernel
theorem dX7_count_168 : decode cX7_count 168 = .ok (.getfield 131, 3) := by decide +kernel
theorem dX7_count_171 : decode cX7_count 171 = .ok (.getfield 93, 3) := by decide +kernel
theorem dX7_count_174 : decode cX7_count 174 = .ok (.ireturn, 1) := by decide +kernel
theorem dX7_count_175 : decode cX7_count 175 = .ok (.aload_n 0, 1) := by decide +kernel
theorem dX7_count_176 : decode cX7_count 176 = .ok (.getfield 12, 3) := by decide +kernel
theorem dX7_count_179 : decode cX7_count 179 = .ok (.getfield 134, 3) := by decide +kernel
theorem dX7_count_182 : decode cX7_count 182 = .ok (.getfield 93, 3) := by decide +kernel
theorem dX7_count_185 : decode cX7_count 185 = .ok (.ireturn, 1) := by decide +kernel
theorem dX7_count_186 : decode cX7_count 186 = .ok (.aload_n 2, 1) := by decide +kernel
theorem dX7_count_187 : decode cX7_count 187 = .ok (.getfield 137, 3) := by decide +kernel
theorem dX7_count_190 : decode cX7_count 190 = .ok (.ireturn, 1) := by decide +kernel
theorem dX7_count_191 : decode cX7_count 191 = .ok (.aload_n 2, 1) := by decide +kernel
theorem dX7_count_192 : decode cX7_count 192 = .ok (.getfield 140, 3) := by decide +kernel
theorem dX7_count_195 : decode cX7_count 195 = .ok (.ireturn, 1) := by decide +kernel
theorem dX7_count_196 : decode cX7_count 196 = .ok (.aload_n 2, 1) := by decide +kernel
theorem dX7_count_197 : decode cX7_count 197 = .ok (.getfield 143, 3) := by decide +kernel
theorem dX7_count_200 : decode cX7_count 200 = .ok (.ireturn, 1) := by decide +kernel
theorem dX7_count_201 : decode cX7_count 201 = .ok (.ldc 41, 2) := by decide +kernel
theorem dX7_count_203 : decode cX7_count 203 = .ok (.ireturn, 1) := by decide +kernel
theorem dX7_turning_0 : decode cX7_turning 0 = .ok (.iload_n 1, 1) := by decide +kernel
theorem dX7_turning_1 : decode cX7_turning 1 = .ok (.ifCond .lt 12, 3) := by decide +kernel
theorem dX7_turning_4 : decode cX7_turning 4 = .ok (.iload_n 2, 1) := by decide +kernel
theorem dX7_turning_5 : decode cX7_turning 5 = .ok (.iconst 0, 1) := by decide +kernel
theorem dX7_turning_6 : decode cX7_turning 6 = .ok (.iconst 1, 1) := by decide +kernel
theorem dX7_turning_7 : decode cX7_turning 7 = .ok (.invokestatic 37, 3) := by decide +kernel
theorem dX7_turning_10 : decode cX7_turning 10 = .ok (.ifCond .eq 6, 3) := by decide +kernel
theorem dX7_turning_13 : decode cX7_turning 13 = .ok (.ldc 41, 2) := by decide +kernel
theorem dX7_turning_15 : decode cX7_turning 15 = .ok (.ireturn, 1) := by decide +kernel
theorem dX7_turning_16 : decode cX7_turning 16 = .ok (.aload_n 0, 1) := by decide +kernel
theorem dX7_turning_17 : decode cX7_turning 17 = .ok (.getfield 12, 3) := by decide +kernel
theorem dX7_turning_20 : decode cX7_turning 20 = .ok (.getfield 53, 3) := by decide +kernel
theorem dX7_turning_23 : decode cX7_turning 23 = .ok (.getfield 89, 3) := by decide +kernel
theorem dX7_turning_26 : decode cX7_turning 26 = .ok (.iload_n 1, 1) := by decide +kernel
theorem dX7_turning_27 : decode cX7_turning 27 = .ok (.iload_n 2, 1) := by decide +kernel
theorem dX7_turning_28 : decode cX7_turning 28 = .ok (.invokevirtual 146, 3) := by decide +kernel
theorem dX7_turning_31 : decode cX7_turning 31 = .ok (.ireturn, 1) := by decide +kernel
theorem dX7_account_0 : decode cX7_account 0 = .ok (.aload_n 0, 1) := by decide +kernel
theorem dX7_account_1 : decode cX7_account 1 = .ok (.getfield 12, 3) := by decide +kernel
theorem dX7_account_4 : decode cX7_account 4 = .ok (.getfield 53, 3) := by decide +kernel
theorem dX7_account_7 : decode cX7_account 7 = .ok (.getfield 150, 3) := by decide +kernel
theorem dX7_account_10 : decode cX7_account 10 = .ok (.lreturn, 1) := by decide +kernel
theorem dX7_again_0 : decode cX7_again 0 = .ok (.aload_n 0, 1) := by decide +kernel
theorem dX7_again_1 : decode cX7_again 1 = .ok (.getfield 12, 3) := by decide +kernel
theorem dX7_again_4 : decode cX7_again 4 = .ok (.getfield 53, 3) := by decide +kernel
theorem dX7_again_7 : decode cX7_again 7 = .ok (.invokevirtual 154, 3) := by decide +kernel
theorem dX7_again_10 : decode cX7_again 10 = .ok (.ireturn, 1) := by decide +kernel
theorem dX7_setPoint_0 : decode cX7_setPoint 0 = .ok (.iload_n 1, 1) := by decide +kernel
theorem dX7_setPoint_1 : decode cX7_setPoint 1 = .ok (.iconst 1, 1) := by decide +kernel
theorem dX7_setPoint_2 : decode cX7_setPoint 2 = .ok (.sipush 1000, 3) := by decide +kernel
theorem dX7_setPoint_5 : decode cX7_setPoint 5 = .ok (.invokestatic 37, 3) := by decide +kernel
theorem dX7_setPoint_8 : decode cX7_setPoint 8 = .ok (.ifCond .ne 14, 3) := by decide +kernel
theorem dX7_setPoint_11 : decode cX7_setPoint 11 = .ok (.iload_n 2, 1) := by decide +kernel
theorem dX7_setPoint_12 : decode cX7_setPoint 12 = .ok (.iconst 1, 1) := by decide +kernel
theorem dX7_setPoint_13 : decode cX7_setPoint 13 = .ok (.sipush 20000, 3) := by decide +kernel
theorem dX7_setPoint_16 : decode cX7_setPoint 16 = .ok (.invokestatic 37, 3) := by decide +kernel
theorem dX7_setPoint_19 : decode cX7_setPoint 19 = .ok (.ifCond .eq 6, 3) := by decide +kernel
theorem dX7_setPoint_22 : decode cX7_setPoint 22 = .ok (.ldc 41, 2) := by decide +kernel
theorem dX7_setPoint_24 : decode cX7_setPoint 24 = .ok (.ireturn, 1) := by decide +kernel
theorem dX7_setPoint_25 : decode cX7_setPoint 25 = .ok (.aload_n 0, 1) := by decide +kernel
theorem dX7_setPoint_26 : decode cX7_setPoint 26 = .ok (.getfield 12, 3) := by decide +kernel
theorem dX7_setPoint_29 : decode cX7_setPoint 29 = .ok (.getfield 53, 3) := by decide +kernel
theorem dX7_setPoint_32 : decode cX7_setPoint 32 = .ok (.getfield 131, 3) := by decide +kernel
theorem dX7_setPoint_35 : decode cX7_setPoint 35 = .ok (.astore_n 3, 1) := by decide +kernel
theorem dX7_setPoint_36 : decode cX7_setPoint 36 = .ok (.aload_n 0, 1) := by decide +kernel
theorem dX7_setPoint_37 : decode cX7_setPoint 37 = .ok (.getfield 12, 3) := by decide +kernel
theorem dX7_setPoint_40 : decode cX7_setPoint 40 = .ok (.getfield 53, 3) := by decide +kernel
theorem dX7_setPoint_43 : decode cX7_setPoint 43 = .ok (.invokevirtual 157, 3) := by decide +kernel
theorem dX7_setPoint_46 : decode cX7_setPoint 46 = .ok (.ifCond .eq 12, 3) := by decide +kernel
theorem dX7_setPoint_49 : decode cX7_setPoint 49 = .ok (.aload_n 3, 1) := by decide +kernel
theorem dX7_setPoint_50 : decode cX7_setPoint 50 = .ok (.iload_n 1, 1) := by decide +kernel
theorem dX7_setPoint_51 : decode cX7_setPoint 51 = .ok (.iload_n 2, 1) := by decide +kernel
theorem dX7_setPoint_52 : decode cX7_setPoint 52 = .ok (.invokevirtual 161, 3) := by decide +kernel
theorem dX7_setPoint_55 : decode cX7_setPoint 55 = .ok (.ifCond .ne 6, 3) := by decide +kernel
theorem dX7_setPoint_58 : decode cX7_setPoint 58 = .ok (.ldc 102, 2) := by decide +kernel
theorem dX7_setPoint_60 : decode cX7_setPoint 60 = .ok (.ireturn, 1) := by decide +kernel
theorem dX7_setPoint_61 : decode cX7_setPoint 61 = .ok (.aload_n 3, 1) := by decide +kernel
theorem dX7_setPoint_62 : decode cX7_setPoint 62 = .ok (.iload_n 1, 1) := by decide +kernel
theorem dX7_setPoint_63 : decode cX7_setPoint 63 = .ok (.invokevirtual 165, 3) := by decide +kernel
theorem dX7_setPoint_66 : decode cX7_setPoint 66 = .ok (.ifCond .ne 6, 3) := by decide +kernel
theorem dX7_setPoint_69 : decode cX7_setPoint 69 = .ok (.ldc 169, 2) := by decide +kernel
theorem dX7_setPoint_71 : decode cX7_setPoint 71 = .ok (.ireturn, 1) := by decide +kernel
theorem dX7_setPoint_72 : decode cX7_setPoint 72 = .ok (.aload_n 0, 1) := by decide +kernel
theorem dX7_setPoint_73 : decode cX7_setPoint 73 = .ok (.getfield 19, 3) := by decide +kernel
theorem dX7_setPoint_76 : decode cX7_setPoint 76 = .ok (.aload_n 0, 1) := by decide +kernel
theorem dX7_setPoint_77 : decode cX7_setPoint 77 = .ok (.getfield 12, 3) := by decide +kernel
theorem dX7_setPoint_80 : decode cX7_setPoint 80 = .ok (.invokevirtual 49, 3) := by decide +kernel
theorem dX7_setPoint_83 : decode cX7_setPoint 83 = .ok (.aload_n 3, 1) := by decide +kernel
theorem dX7_setPoint_84 : decode cX7_setPoint 84 = .ok (.iload_n 1, 1) := by decide +kernel
theorem dX7_setPoint_85 : decode cX7_setPoint 85 = .ok (.iload_n 2, 1) := by decide +kernel
theorem dX7_setPoint_86 : decode cX7_setPoint 86 = .ok (.invokevirtual 170, 3) := by decide +kernel
theorem dX7_setPoint_89 : decode cX7_setPoint 89 = .ok (.aload_n 3, 1) := by decide +kernel
theorem dX7_setPoint_90 : decode cX7_setPoint 90 = .ok (.getfield 93, 3) := by decide +kernel
theorem dX7_setPoint_93 : decode cX7_setPoint 93 = .ok (.ireturn, 1) := by decide +kernel
theorem dX7_removePoint_0 : decode cX7_removePoint 0 = .ok (.iload_n 1, 1) := by decide +kernel
theorem dX7_removePoint_1 : decode cX7_removePoint 1 = .ok (.iconst 1, 1) := by decide +kernel
theorem dX7_removePoint_2 : decode cX7_removePoint 2 = .ok (.sipush 999, 3) := by decide +kernel
theorem dX7_removePoint_5 : decode cX7_removePoint 5 = .ok (.invokestatic 37, 3) := by decide +kernel
theorem dX7_removePoint_8 : decode cX7_removePoint 8 = .ok (.ifCond .eq 6, 3) := by decide +kernel
theorem dX7_removePoint_11 : decode cX7_removePoint 11 = .ok (.ldc 41, 2) := by decide +kernel
theorem dX7_removePoint_13 : decode cX7_removePoint 13 = .ok (.ireturn, 1) := by decide +kernel
theorem dX7_removePoint_14 : decode cX7_removePoint 14 = .ok (.aload_n 0, 1) := by decide +kernel
theorem dX7_removePoint_15 : decode cX7_removePoint 15 = .ok (.getfield 12, 3) := by decide +kernel
theorem dX7_removePoint_18 : decode cX7_removePoint 18 = .ok (.getfield 53, 3) := by decide +kernel
theorem dX7_removePoint_21 : decode cX7_removePoint 21 = .ok (.invokevirtual 157, 3) := by decide +kernel
theorem dX7_removePoint_24 : decode cX7_removePoint 24 = .ok (.ifCond .ne 6, 3) := by decide +kernel
theorem dX7_removePoint_27 : decode cX7_removePoint 27 = .ok (.ldc 102, 2) := by decide +kernel
theorem dX7_removePoint_29 : decode cX7_removePoint 29 = .ok (.ireturn, 1) := by decide +kernel
theorem dX7_removePoint_30 : decode cX7_removePoint 30 = .ok (.aload_n 0, 1) := by decide +kernel
theorem dX7_removePoint_31 : decode cX7_removePoint 31 = .ok (.getfield 12, 3) := by decide +kernel
theorem dX7_removePoint_34 : decode cX7_removePoint 34 = .ok (.getfield 53, 3) := by decide +kernel
theorem dX7_removePoint_37 : decode cX7_removePoint 37 = .ok (.getfield 131, 3) := by decide +kernel
theorem dX7_removePoint_40 : decode cX7_removePoint 40 = .ok (.astore_n 2, 1) := by decide +kernel
theorem dX7_removePoint_41 : decode cX7_removePoint 41 = .ok (.aload_n 2, 1) := by decide +kernel
theorem dX7_removePoint_42 : decode cX7_removePoint 42 = .ok (.iload_n 1, 1) := by decide +kernel
theorem dX7_removePoint_43 : decode cX7_removePoint 43 = .ok (.invokevirtual 174, 3) := by decide +kernel
theorem dX7_removePoint_46 : decode cX7_removePoint 46 = .ok (.ifCond .ne 6, 3) := by decide +kernel
theorem dX7_removePoint_49 : decode cX7_removePoint 49 = .ok (.ldc 177, 2) := by decide +kernel
theorem dX7_removePoint_51 : decode cX7_removePoint 51 = .ok (.ireturn, 1) := by decide +kernel
theorem dX7_removePoint_52 : decode cX7_removePoint 52 = .ok (.aload_n 0, 1) := by decide +kernel
theorem dX7_removePoint_53 : decode cX7_removePoint 53 = .ok (.getfield 19, 3) := by decide +kernel
theorem dX7_removePoint_56 : decode cX7_removePoint 56 = .ok (.aload_n 0, 1) := by decide +kernel
theorem dX7_removePoint_57 : decode cX7_removePoint 57 = .ok (.getfield 12, 3) := by decide +kernel
theorem dX7_removePoint_60 : decode cX7_removePoint 60 = .ok (.invokevirtual 49, 3) := by decide +kernel
theorem dX7_removePoint_63 : decode cX7_removePoint 63 = .ok (.aload_n 2, 1) := by decide +kernel
theorem dX7_removePoint_64 : decode cX7_removePoint 64 = .ok (.iload_n 1, 1) := by decide +kernel
theorem dX7_removePoint_65 : decode cX7_removePoint 65 = .ok (.invokevirtual 178, 3) := by decide +kernel
theorem dX7_removePoint_68 : decode cX7_removePoint 68 = .ok (.istore_n 3, 1) := by decide +kernel
theorem dX7_removePoint_69 : decode cX7_removePoint 69 = .ok (.aload_n 2, 1) := by decide +kernel
theorem dX7_removePoint_70 : decode cX7_removePoint 70 = .ok (.iload_n 3, 1) := by decide +kernel
theorem dX7_removePoint_71 : decode cX7_removePoint 71 = .ok (.invokevirtual 181, 3) := by decide +kernel
theorem dX7_removePoint_74 : decode cX7_removePoint 74 = .ok (.istore 4, 2) := by decide +kernel
theorem dX7_removePoint_76 : decode cX7_removePoint 76 = .ok (.aload_n 2, 1) := by decide +kernel
theorem dX7_removePoint_77 : decode cX7_removePoint 77 = .ok (.iload_n 3, 1) := by decide +kernel
theorem dX7_removePoint_78 : decode cX7_removePoint 78 = .ok (.invokevirtual 184, 3) := by decide +kernel
theorem dX7_removePoint_81 : decode cX7_removePoint 81 = .ok (.iload 4, 2) := by decide +kernel
theorem dX7_removePoint_83 : decode cX7_removePoint 83 = .ok (.ireturn, 1) := by decide +kernel
theorem dX7_curve_0 : decode cX7_curve 0 = .ok (.iload_n 1, 1) := by decide +kernel
theorem dX7_curve_1 : decode cX7_curve 1 = .ok (.iconst 0, 1) := by decide +kernel
theorem dX7_curve_2 : decode cX7_curve 2 = .ok (.iconst 1, 1) := by decide +kernel
theorem dX7_curve_3 : decode cX7_curve 3 = .ok (.invokestatic 37, 3) := by decide +kernel
theorem dX7_curve_6 : decode cX7_curve 6 = .ok (.ifCond .ne 14, 3) := by decide +kernel
theorem dX7_curve_9 : decode cX7_curve 9 = .ok (.iload_n 2, 1) := by decide +kernel
theorem dX7_curve_10 : decode cX7_curve 10 = .ok (.iconst 0, 1) := by decide +kernel
theorem dX7_curve_11 : decode cX7_curve 11 = .ok (.sipush 1000, 3) := by decide +kernel
theorem dX7_curve_14 : decode cX7_curve 14 = .ok (.invokestatic 37, 3) := by decide +kernel
theorem dX7_curve_17 : decode cX7_curve 17 = .ok (.ifCond .eq 6, 3) := by decide +kernel
theorem dX7_curve_20 : decode cX7_curve 20 = .ok (.ldc 41, 2) := by decide +kernel
theorem dX7_curve_22 : decode cX7_curve 22 = .ok (.ireturn, 1) := by decide +kernel
theorem dX7_curve_23 : decode cX7_curve 23 = .ok (.aload_n 0, 1) := by decide +kernel
theorem dX7_curve_24 : decode cX7_curve 24 = .ok (.getfield 12, 3) := by decide +kernel
theorem dX7_curve_27 : decode cX7_curve 27 = .ok (.getfield 53, 3) := by decide +kernel
theorem dX7_curve_30 : decode cX7_curve 30 = .ok (.getfield 131, 3) := by decide +kernel
theorem dX7_curve_33 : decode cX7_curve 33 = .ok (.iload_n 2, 1) := by decide +kernel
theorem dX7_curve_34 : decode cX7_curve 34 = .ok (.iload_n 1, 1) := by decide +kernel
theorem dX7_curve_35 : decode cX7_curve 35 = .ok (.ifCond .ne 7, 3) := by decide +kernel
theorem dX7_curve_38 : decode cX7_curve 38 = .ok (.iconst 1, 1) := by decide +kernel
theorem dX7_curve_39 : decode cX7_curve 39 = .ok (.goto 4, 3) := by decide +kernel
theorem dX7_curve_42 : decode cX7_curve 42 = .ok (.iconst 2, 1) := by decide +kernel
theorem dX7_curve_43 : decode cX7_curve 43 = .ok (.invokevirtual 187, 3) := by decide +kernel
theorem dX7_curve_46 : decode cX7_curve 46 = .ok (.ireturn, 1) := by decide +kernel
theorem dX7_setBreak_0 : decode cX7_setBreak 0 = .ok (.iload_n 1, 1) := by decide +kernel
theorem dX7_setBreak_1 : decode cX7_setBreak 1 = .ok (.sipush (-1000), 3) := by decide +kernel
theorem dX7_setBreak_4 : decode cX7_setBreak 4 = .ok (.sipush 30000, 3) := by decide +kernel
theorem dX7_setBreak_7 : decode cX7_setBreak 7 = .ok (.invokestatic 37, 3) := by decide +kernel
theorem dX7_setBreak_10 : decode cX7_setBreak 10 = .ok (.ifCond .ne 14, 3) := by decide +kernel
theorem dX7_setBreak_13 : decode cX7_setBreak 13 = .ok (.iload_n 2, 1) := by decide +kernel
theorem dX7_setBreak_14 : decode cX7_setBreak 14 = .ok (.iconst 0, 1) := by decide +kernel
theorem dX7_setBreak_15 : decode cX7_setBreak 15 = .ok (.sipush 1000, 3) := by decide +kernel
theorem dX7_setBreak_18 : decode cX7_setBreak 18 = .ok (.invokestatic 37, 3) := by decide +kernel
theorem dX7_setBreak_21 : decode cX7_setBreak 21 = .ok (.ifCond .eq 6, 3) := by decide +kernel
theorem dX7_setBreak_24 : decode cX7_setBreak 24 = .ok (.ldc 41, 2) := by decide +kernel
theorem dX7_setBreak_26 : decode cX7_setBreak 26 = .ok (.ireturn, 1) := by decide +kernel
theorem dX7_setBreak_27 : decode cX7_setBreak 27 = .ok (.aload_n 0, 1) := by decide +kernel
theorem dX7_setBreak_28 : decode cX7_setBreak 28 = .ok (.getfield 12, 3) := by decide +kernel
theorem dX7_setBreak_31 : decode cX7_setBreak 31 = .ok (.getfield 134, 3) := by decide +kernel
theorem dX7_setBreak_34 : decode cX7_setBreak 34 = .ok (.iload_n 1, 1) := by decide +kernel
theorem dX7_setBreak_35 : decode cX7_setBreak 35 = .ok (.iload_n 2, 1) := by decide +kernel
theorem dX7_setBreak_36 : decode cX7_setBreak 36 = .ok (.invokevirtual 161, 3) := by decide +kernel
theorem dX7_setBreak_39 : decode cX7_setBreak 39 = .ok (.ifCond .ne 6, 3) := by decide +kernel
theorem dX7_setBreak_42 : decode cX7_setBreak 42 = .ok (.ldc 102, 2) := by decide +kernel
theorem dX7_setBreak_44 : decode cX7_setBreak 44 = .ok (.ireturn, 1) := by decide +kernel
theorem dX7_setBreak_45 : decode cX7_setBreak 45 = .ok (.aload_n 0, 1) := by decide +kernel
theorem dX7_setBreak_46 : decode cX7_setBreak 46 = .ok (.getfield 12, 3) := by decide +kernel
theorem dX7_setBreak_49 : decode cX7_setBreak 49 = .ok (.getfield 134, 3) := by decide +kernel
theorem dX7_setBreak_52 : decode cX7_setBreak 52 = .ok (.iload_n 1, 1) := by decide +kernel
theorem dX7_setBreak_53 : decode cX7_setBreak 53 = .ok (.invokevirtual 165, 3) := by decide +kernel
theorem dX7_setBreak_56 : decode cX7_setBreak 56 = .ok (.ifCond .ne 6, 3) := by decide +kernel
theorem dX7_setBreak_59 : decode cX7_setBreak 59 = .ok (.ldc 169, 2) := by decide +kernel
theorem dX7_setBreak_61 : decode cX7_setBreak 61 = .ok (.ireturn, 1) := by decide +kernel
theorem dX7_setBreak_62 : decode cX7_setBreak 62 = .ok (.aload_n 0, 1) := by decide +kernel
theorem dX7_setBreak_63 : decode cX7_setBreak 63 = .ok (.getfield 19, 3) := by decide +kernel
theorem dX7_setBreak_66 : decode cX7_setBreak 66 = .ok (.aload_n 0, 1) := by decide +kernel
theorem dX7_setBreak_67 : decode cX7_setBreak 67 = .ok (.getfield 12, 3) := by decide +kernel
theorem dX7_setBreak_70 : decode cX7_setBreak 70 = .ok (.invokevirtual 49, 3) := by decide +kernel
theorem dX7_setBreak_73 : decode cX7_setBreak 73 = .ok (.aload_n 0, 1) := by decide +kernel
theorem dX7_setBreak_74 : decode cX7_setBreak 74 = .ok (.getfield 12, 3) := by decide +kernel
theorem dX7_setBreak_77 : decode cX7_setBreak 77 = .ok (.getfield 134, 3) := by decide +kernel
theorem dX7_setBreak_80 : decode cX7_setBreak 80 = .ok (.iload_n 1, 1) := by decide +kernel
theorem dX7_setBreak_81 : decode cX7_setBreak 81 = .ok (.iload_n 2, 1) := by decide +kernel
theorem dX7_setBreak_82 : decode cX7_setBreak 82 = .ok (.invokevirtual 170, 3) := by decide +kernel
theorem dX7_setBreak_85 : decode cX7_setBreak 85 = .ok (.aload_n 0, 1) := by decide +kernel
theorem dX7_setBreak_86 : decode cX7_setBreak 86 = .ok (.getfield 12, 3) := by decide +kernel
theorem dX7_setBreak_89 : decode cX7_setBreak 89 = .ok (.getfield 134, 3) := by decide +kernel
theorem dX7_setBreak_92 : decode cX7_setBreak 92 = .ok (.getfield 93, 3) := by decide +kernel
theorem dX7_setBreak_95 : decode cX7_setBreak 95 = .ok (.ireturn, 1) := by decide +kernel
theorem dX7_removeBreak_0 : decode cX7_removeBreak 0 = .ok (.iload_n 1, 1) := by decide +kernel
theorem dX7_removeBreak_1 : decode cX7_removeBreak 1 = .ok (.iconst 0, 1) := by decide +kernel
theorem dX7_removeBreak_2 : decode cX7_removeBreak 2 = .ok (.aload_n 0, 1) := by decide +kernel
theorem dX7_removeBreak_3 : decode cX7_removeBreak 3 = .ok (.getfield 12, 3) := by decide +kernel
theorem dX7_removeBreak_6 : decode cX7_removeBreak 6 = .ok (.getfield 134, 3) := by decide +kernel
theorem dX7_removeBreak_9 : decode cX7_removeBreak 9 = .ok (.getfield 93, 3) := by decide +kernel
theorem dX7_removeBreak_12 : decode cX7_removeBreak 12 = .ok (.iconst 1, 1) := by decide +kernel
theorem dX7_removeBreak_13 : decode cX7_removeBreak 13 = .ok (.isub, 1) := by decide +kernel
theorem dX7_removeBreak_14 : decode cX7_removeBreak 14 = .ok (.invokestatic 37, 3) := by decide +kernel
theorem dX7_removeBreak_17 : decode cX7_removeBreak 17 = .ok (.ifCond .eq 6, 3) := by decide +kernel
theorem dX7_removeBreak_20 : decode cX7_removeBreak 20 = .ok (.ldc 41, 2) := by decide +kernel
theorem dX7_removeBreak_22 : decode cX7_removeBreak 22 = .ok (.ireturn, 1) := by decide +kernel
theorem dX7_removeBreak_23 : decode cX7_removeBreak 23 = .ok (.aload_n 0, 1) := by decide +kernel
theorem dX7_removeBreak_24 : decode cX7_removeBreak 24 = .ok (.getfield 12, 3) := by decide +kernel
theorem dX7_removeBreak_27 : decode cX7_removeBreak 27 = .ok (.getfield 134, 3) := by decide +kernel
theorem dX7_removeBreak_30 : decode cX7_removeBreak 30 = .ok (.getfield 93, 3) := by decide +kernel
theorem dX7_removeBreak_33 : decode cX7_removeBreak 33 = .ok (.iconst 2, 1) := by decide +kernel
theorem dX7_removeBreak_34 : decode cX7_removeBreak 34 = .ok (.if_icmp .gt 6, 3) := by decide +kernel
theorem dX7_removeBreak_37 : decode cX7_removeBreak 37 = .ok (.ldc 102, 2) := by decide +kernel
theorem dX7_removeBreak_39 : decode cX7_removeBreak 39 = .ok (.ireturn, 1) := by decide +kernel
theorem dX7_removeBreak_40 : decode cX7_removeBreak 40 = .ok (.aload_n 0, 1) := by decide +kernel
theorem dX7_removeBreak_41 : decode cX7_removeBreak 41 = .ok (.getfield 19, 3) := by decide +kernel
theorem dX7_removeBreak_44 : decode cX7_removeBreak 44 = .ok (.aload_n 0, 1) := by decide +kernel
theorem dX7_removeBreak_45 : decode cX7_removeBreak 45 = .ok (.getfield 12, 3) := by decide +kernel
theorem dX7_removeBreak_48 : decode cX7_removeBreak 48 = .ok (.invokevirtual 49, 3) := by decide +kernel
theorem dX7_removeBreak_51 : decode cX7_removeBreak 51 = .ok (.aload_n 0, 1) := by decide +kernel
theorem dX7_removeBreak_52 : decode cX7_removeBreak 52 = .ok (.getfield 12, 3) := by decide +kernel
theorem dX7_removeBreak_55 : decode cX7_removeBreak 55 = .ok (.getfield 134, 3) := by decide +kernel
theorem dX7_removeBreak_58 : decode cX7_removeBreak 58 = .ok (.iload_n 1, 1) := by decide +kernel
theorem dX7_removeBreak_59 : decode cX7_removeBreak 59 = .ok (.invokevirtual 184, 3) := by decide +kernel
theorem dX7_removeBreak_62 : decode cX7_removeBreak 62 = .ok (.aload_n 0, 1) := by decide +kernel
theorem dX7_removeBreak_63 : decode cX7_removeBreak 63 = .ok (.getfield 12, 3) := by decide +kernel
theorem dX7_removeBreak_66 : decode cX7_removeBreak 66 = .ok (.getfield 134, 3) := by decide +kernel
theorem dX7_removeBreak_69 : decode cX7_removeBreak 69 = .ok (.getfield 93, 3) := by decide +kernel
theorem dX7_removeBreak_72 : decode cX7_removeBreak 72 = .ok (.ireturn, 1) := by decide +kernel
theorem dX7_entry_0 : decode cX7_entry 0 = .ok (.iload_n 1, 1) := by decide +kernel
theorem dX7_entry_1 : decode cX7_entry 1 = .ok (.iconst 0, 1) := by decide +kernel
theorem dX7_entry_2 : decode cX7_entry 2 = .ok (.iconst 3, 1) := by decide +kernel
theorem dX7_entry_3 : decode cX7_entry 3 = .ok (.invokestatic 37, 3) := by decide +kernel
theorem dX7_entry_6 : decode cX7_entry 6 = .ok (.ifCond .ne 7, 3) := by decide +kernel
theorem dX7_entry_9 : decode cX7_entry 9 = .ok (.iload_n 2, 1) := by decide +kernel
theorem dX7_entry_10 : decode cX7_entry 10 = .ok (.ifCond .ge 6, 3) := by decide +kernel
theorem dX7_entry_13 : decode cX7_entry 13 = .ok (.ldc 41, 2) := by decide +kernel
theorem dX7_entry_15 : decode cX7_entry 15 = .ok (.ireturn, 1) := by decide +kernel
theorem dX7_entry_16 : decode cX7_entry 16 = .ok (.iload_n 1, 1) := by decide +kernel
theorem dX7_entry_17 : decode cX7_entry 17 = .ok (.iconst 2, 1) := by decide +kernel
theorem dX7_entry_18 : decode cX7_entry 18 = .ok (.if_icmp .ge 21, 3) := by decide +kernel
theorem dX7_entry_21 : decode cX7_entry 21 = .ok (.aload_n 0, 1) := by decide +kernel
theorem dX7_entry_22 : decode cX7_entry 22 = .ok (.getfield 12, 3) := by decide +kernel
theorem dX7_entry_25 : decode cX7_entry 25 = .ok (.getfield 53, 3) := by decide +kernel
theorem dX7_entry_28 : decode cX7_entry 28 = .ok (.getfield 131, 3) := by decide +kernel
theorem dX7_entry_31 : decode cX7_entry 31 = .ok (.iload_n 2, 1) := by decide +kernel
theorem dX7_entry_32 : decode cX7_entry 32 = .ok (.iload_n 1, 1) := by decide +kernel
theorem dX7_entry_33 : decode cX7_entry 33 = .ok (.invokevirtual 146, 3) := by decide +kernel
theorem dX7_entry_36 : decode cX7_entry 36 = .ok (.goto 17, 3) := by decide +kernel
