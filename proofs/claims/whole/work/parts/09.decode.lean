theorem dX8_count_113 : decode cX8_count 113 = .ok (.getfield 7, 3) := by decide +kernel
theorem dX8_count_116 : decode cX8_count 116 = .ok (.iload_n 1, 1) := by decide +kernel
theorem dX8_count_117 : decode cX8_count 117 = .ok (.iaload, 1) := by decide +kernel
theorem dX8_count_118 : decode cX8_count 118 = .ok (.ireturn, 1) := by decide +kernel
theorem dX8_count_119 : decode cX8_count 119 = .ok (.aload_n 0, 1) := by decide +kernel
theorem dX8_count_120 : decode cX8_count 120 = .ok (.invokevirtual 73, 3) := by decide +kernel
theorem dX8_count_123 : decode cX8_count 123 = .ok (.ireturn, 1) := by decide +kernel
theorem dX8_count_124 : decode cX8_count 124 = .ok (.aload_n 0, 1) := by decide +kernel
theorem dX8_count_125 : decode cX8_count 125 = .ok (.getfield 7, 3) := by decide +kernel
theorem dX8_count_128 : decode cX8_count 128 = .ok (.iconst 5, 1) := by decide +kernel
theorem dX8_count_129 : decode cX8_count 129 = .ok (.iaload, 1) := by decide +kernel
theorem dX8_count_130 : decode cX8_count 130 = .ok (.ireturn, 1) := by decide +kernel
theorem dX8_count_131 : decode cX8_count 131 = .ok (.aload_n 0, 1) := by decide +kernel
theorem dX8_count_132 : decode cX8_count 132 = .ok (.getfield 7, 3) := by decide +kernel
theorem dX8_count_135 : decode cX8_count 135 = .ok (.iconst 4, 1) := by decide +kernel
theorem dX8_count_136 : decode cX8_count 136 = .ok (.iaload, 1) := by decide +kernel
theorem dX8_count_137 : decode cX8_count 137 = .ok (.ireturn, 1) := by decide +kernel
theorem dX8_count_138 : decode cX8_count 138 = .ok (.aload_n 0, 1) := by decide +kernel
theorem dX8_count_139 : decode cX8_count 139 = .ok (.getfield 7, 3) := by decide +kernel
theorem dX8_count_142 : decode cX8_count 142 = .ok (.bipush 41, 2) := by decide +kernel
theorem dX8_count_144 : decode cX8_count 144 = .ok (.iaload, 1) := by decide +kernel
theorem dX8_count_145 : decode cX8_count 145 = .ok (.ireturn, 1) := by decide +kernel
theorem dX8_count_146 : decode cX8_count 146 = .ok (.iload_n 2, 1) := by decide +kernel
theorem dX8_count_147 : decode cX8_count 147 = .ok (.ireturn, 1) := by decide +kernel
theorem dX8_count_148 : decode cX8_count 148 = .ok (.aload_n 0, 1) := by decide +kernel
theorem dX8_count_149 : decode cX8_count 149 = .ok (.getfield 33, 3) := by decide +kernel
theorem dX8_count_152 : decode cX8_count 152 = .ok (.ireturn, 1) := by decide +kernel
theorem dX8_count_153 : decode cX8_count 153 = .ok (.aload_n 0, 1) := by decide +kernel
theorem dX8_count_154 : decode cX8_count 154 = .ok (.getfield 93, 3) := by decide +kernel
theorem dX8_count_157 : decode cX8_count 157 = .ok (.ireturn, 1) := by decide +kernel
theorem dX8_count_158 : decode cX8_count 158 = .ok (.aload_n 0, 1) := by decide +kernel
theorem dX8_count_159 : decode cX8_count 159 = .ok (.getfield 7, 3) := by decide +kernel
theorem dX8_count_162 : decode cX8_count 162 = .ok (.bipush 9, 2) := by decide +kernel
theorem dX8_count_164 : decode cX8_count 164 = .ok (.iaload, 1) := by decide +kernel
theorem dX8_count_165 : decode cX8_count 165 = .ok (.ireturn, 1) := by decide +kernel
theorem dX8_count_166 : decode cX8_count 166 = .ok (.aload_n 0, 1) := by decide +kernel
theorem dX8_count_167 : decode cX8_count 167 = .ok (.getfield 7, 3) := by decide +kernel
theorem dX8_count_170 : decode cX8_count 170 = .ok (.bipush 26, 2) := by decide +kernel
theorem dX8_count_172 : decode cX8_count 172 = .ok (.iaload, 1) := by decide +kernel
theorem dX8_count_173 : decode cX8_count 173 = .ok (.ireturn, 1) := by decide +kernel
theorem dX8_count_174 : decode cX8_count 174 = .ok (.aload_n 0, 1) := by decide +kernel
theorem dX8_count_175 : decode cX8_count 175 = .ok (.getfield 7, 3) := by decide +kernel
theorem dX8_count_178 : decode cX8_count 178 = .ok (.iload_n 1, 1) := by decide +kernel
theorem dX8_count_179 : decode cX8_count 179 = .ok (.bipush 7, 2) := by decide +kernel
theorem dX8_count_181 : decode cX8_count 181 = .ok (.isub, 1) := by decide +kernel
theorem dX8_count_182 : decode cX8_count 182 = .ok (.iaload, 1) := by decide +kernel
theorem dX8_count_183 : decode cX8_count 183 = .ok (.ireturn, 1) := by decide +kernel
theorem dX8_count_184 : decode cX8_count 184 = .ok (.ldc 64, 2) := by decide +kernel
theorem dX8_count_186 : decode cX8_count 186 = .ok (.ireturn, 1) := by decide +kernel
theorem dX8_turning_0 : decode cX8_turning 0 = .ok (.iload_n 1, 1) := by decide +kernel
theorem dX8_turning_1 : decode cX8_turning 1 = .ok (.ifCond .lt 12, 3) := by decide +kernel
theorem dX8_turning_4 : decode cX8_turning 4 = .ok (.iload_n 2, 1) := by decide +kernel
theorem dX8_turning_5 : decode cX8_turning 5 = .ok (.iconst 0, 1) := by decide +kernel
theorem dX8_turning_6 : decode cX8_turning 6 = .ok (.iconst 1, 1) := by decide +kernel
theorem dX8_turning_7 : decode cX8_turning 7 = .ok (.invokestatic 56, 3) := by decide +kernel
theorem dX8_turning_10 : decode cX8_turning 10 = .ok (.ifCond .ne 6, 3) := by decide +kernel
theorem dX8_turning_13 : decode cX8_turning 13 = .ok (.ldc 64, 2) := by decide +kernel
theorem dX8_turning_15 : decode cX8_turning 15 = .ok (.ireturn, 1) := by decide +kernel
theorem dX8_turning_16 : decode cX8_turning 16 = .ok (.iload_n 1, 1) := by decide +kernel
theorem dX8_turning_17 : decode cX8_turning 17 = .ok (.aload_n 0, 1) := by decide +kernel
theorem dX8_turning_18 : decode cX8_turning 18 = .ok (.getfield 7, 3) := by decide +kernel
theorem dX8_turning_21 : decode cX8_turning 21 = .ok (.iconst 5, 1) := by decide +kernel
theorem dX8_turning_22 : decode cX8_turning 22 = .ok (.iaload, 1) := by decide +kernel
theorem dX8_turning_23 : decode cX8_turning 23 = .ok (.if_icmp .lt 8, 3) := by decide +kernel
theorem dX8_turning_26 : decode cX8_turning 26 = .ok (.ldc 96, 2) := by decide +kernel
theorem dX8_turning_28 : decode cX8_turning 28 = .ok (.goto 29, 3) := by decide +kernel
theorem dX8_turning_31 : decode cX8_turning 31 = .ok (.iload_n 2, 1) := by decide +kernel
theorem dX8_turning_32 : decode cX8_turning 32 = .ok (.ifCond .ne 15, 3) := by decide +kernel
theorem dX8_turning_35 : decode cX8_turning 35 = .ok (.aload_n 0, 1) := by decide +kernel
theorem dX8_turning_36 : decode cX8_turning 36 = .ok (.getfield 7, 3) := by decide +kernel
theorem dX8_turning_39 : decode cX8_turning 39 = .ok (.bipush 82, 2) := by decide +kernel
theorem dX8_turning_41 : decode cX8_turning 41 = .ok (.iload_n 1, 1) := by decide +kernel
theorem dX8_turning_42 : decode cX8_turning 42 = .ok (.iadd, 1) := by decide +kernel
theorem dX8_turning_43 : decode cX8_turning 43 = .ok (.iaload, 1) := by decide +kernel
theorem dX8_turning_44 : decode cX8_turning 44 = .ok (.goto 13, 3) := by decide +kernel
theorem dX8_turning_47 : decode cX8_turning 47 = .ok (.aload_n 0, 1) := by decide +kernel
theorem dX8_turning_48 : decode cX8_turning 48 = .ok (.getfield 7, 3) := by decide +kernel
theorem dX8_turning_51 : decode cX8_turning 51 = .ok (.sipush 1084, 3) := by decide +kernel
theorem dX8_turning_54 : decode cX8_turning 54 = .ok (.iload_n 1, 1) := by decide +kernel
theorem dX8_turning_55 : decode cX8_turning 55 = .ok (.iadd, 1) := by decide +kernel
theorem dX8_turning_56 : decode cX8_turning 56 = .ok (.iaload, 1) := by decide +kernel
theorem dX8_turning_57 : decode cX8_turning 57 = .ok (.ireturn, 1) := by decide +kernel
theorem dX8_account_0 : decode cX8_account 0 = .ok (.aload_n 0, 1) := by decide +kernel
theorem dX8_account_1 : decode cX8_account 1 = .ok (.getfield 37, 3) := by decide +kernel
theorem dX8_account_4 : decode cX8_account 4 = .ok (.lreturn, 1) := by decide +kernel
theorem dX8_again_0 : decode cX8_again 0 = .ok (.aload_n 0, 1) := by decide +kernel
theorem dX8_again_1 : decode cX8_again 1 = .ok (.aload_n 0, 1) := by decide +kernel
theorem dX8_again_2 : decode cX8_again 2 = .ok (.getfield 7, 3) := by decide +kernel
theorem dX8_again_5 : decode cX8_again 5 = .ok (.iconst 5, 1) := by decide +kernel
theorem dX8_again_6 : decode cX8_again 6 = .ok (.iaload, 1) := by decide +kernel
theorem dX8_again_7 : decode cX8_again 7 = .ok (.ifCond .ne 12, 3) := by decide +kernel
theorem dX8_again_10 : decode cX8_again 10 = .ok (.aload_n 0, 1) := by decide +kernel
theorem dX8_again_11 : decode cX8_again 11 = .ok (.getfield 7, 3) := by decide +kernel
theorem dX8_again_14 : decode cX8_again 14 = .ok (.iconst 0, 1) := by decide +kernel
theorem dX8_again_15 : decode cX8_again 15 = .ok (.iaload, 1) := by decide +kernel
theorem dX8_again_16 : decode cX8_again 16 = .ok (.goto 10, 3) := by decide +kernel
theorem dX8_again_19 : decode cX8_again 19 = .ok (.aload_n 0, 1) := by decide +kernel
theorem dX8_again_20 : decode cX8_again 20 = .ok (.getfield 7, 3) := by decide +kernel
theorem dX8_again_23 : decode cX8_again 23 = .ok (.bipush 82, 2) := by decide +kernel
theorem dX8_again_25 : decode cX8_again 25 = .ok (.iaload, 1) := by decide +kernel
theorem dX8_again_26 : decode cX8_again 26 = .ok (.iconst 1, 1) := by decide +kernel
theorem dX8_again_27 : decode cX8_again 27 = .ok (.invokevirtual 45, 3) := by decide +kernel
theorem dX8_again_30 : decode cX8_again 30 = .ok (.istore_n 1, 1) := by decide +kernel
theorem dX8_again_31 : decode cX8_again 31 = .ok (.iconst (-1), 1) := by decide +kernel
theorem dX8_again_32 : decode cX8_again 32 = .ok (.istore_n 2, 1) := by decide +kernel
theorem dX8_again_33 : decode cX8_again 33 = .ok (.iconst 0, 1) := by decide +kernel
theorem dX8_again_34 : decode cX8_again 34 = .ok (.istore_n 3, 1) := by decide +kernel
theorem dX8_again_35 : decode cX8_again 35 = .ok (.iload_n 3, 1) := by decide +kernel
theorem dX8_again_36 : decode cX8_again 36 = .ok (.aload_n 0, 1) := by decide +kernel
theorem dX8_again_37 : decode cX8_again 37 = .ok (.getfield 7, 3) := by decide +kernel
theorem dX8_again_40 : decode cX8_again 40 = .ok (.iconst 5, 1) := by decide +kernel
theorem dX8_again_41 : decode cX8_again 41 = .ok (.iaload, 1) := by decide +kernel
theorem dX8_again_42 : decode cX8_again 42 = .ok (.if_icmp .ge 70, 3) := by decide +kernel
theorem dX8_again_45 : decode cX8_again 45 = .ok (.iload_n 3, 1) := by decide +kernel
theorem dX8_again_46 : decode cX8_again 46 = .ok (.iconst 1, 1) := by decide +kernel
theorem dX8_again_47 : decode cX8_again 47 = .ok (.iadd, 1) := by decide +kernel
theorem dX8_again_48 : decode cX8_again 48 = .ok (.aload_n 0, 1) := by decide +kernel
theorem dX8_again_49 : decode cX8_again 49 = .ok (.getfield 7, 3) := by decide +kernel
theorem dX8_again_52 : decode cX8_again 52 = .ok (.iconst 5, 1) := by decide +kernel
theorem dX8_again_53 : decode cX8_again 53 = .ok (.iaload, 1) := by decide +kernel
theorem dX8_again_54 : decode cX8_again 54 = .ok (.if_icmp .ge 17, 3) := by decide +kernel
theorem dX8_again_57 : decode cX8_again 57 = .ok (.aload_n 0, 1) := by decide +kernel
theorem dX8_again_58 : decode cX8_again 58 = .ok (.getfield 7, 3) := by decide +kernel
theorem dX8_again_61 : decode cX8_again 61 = .ok (.bipush 82, 2) := by decide +kernel
theorem dX8_again_63 : decode cX8_again 63 = .ok (.iload_n 3, 1) := by decide +kernel
theorem dX8_again_64 : decode cX8_again 64 = .ok (.iadd, 1) := by decide +kernel
theorem dX8_again_65 : decode cX8_again 65 = .ok (.iconst 1, 1) := by decide +kernel
theorem dX8_again_66 : decode cX8_again 66 = .ok (.iadd, 1) := by decide +kernel
theorem dX8_again_67 : decode cX8_again 67 = .ok (.iaload, 1) := by decide +kernel
theorem dX8_again_68 : decode cX8_again 68 = .ok (.goto 9, 3) := by decide +kernel
theorem dX8_again_71 : decode cX8_again 71 = .ok (.aload_n 0, 1) := by decide +kernel
theorem dX8_again_72 : decode cX8_again 72 = .ok (.getfield 7, 3) := by decide +kernel
theorem dX8_again_75 : decode cX8_again 75 = .ok (.iconst 0, 1) := by decide +kernel
theorem dX8_again_76 : decode cX8_again 76 = .ok (.iaload, 1) := by decide +kernel
theorem dX8_again_77 : decode cX8_again 77 = .ok (.istore 4, 2) := by decide +kernel
theorem dX8_again_79 : decode cX8_again 79 = .ok (.iload_n 1, 1) := by decide +kernel
theorem dX8_again_80 : decode cX8_again 80 = .ok (.iload_n 2, 1) := by decide +kernel
theorem dX8_again_81 : decode cX8_again 81 = .ok (.aload_n 0, 1) := by decide +kernel
theorem dX8_again_82 : decode cX8_again 82 = .ok (.iload_n 2, 1) := by decide +kernel
theorem dX8_again_83 : decode cX8_again 83 = .ok (.iload 4, 2) := by decide +kernel
theorem dX8_again_85 : decode cX8_again 85 = .ok (.aload_n 0, 1) := by decide +kernel
theorem dX8_again_86 : decode cX8_again 86 = .ok (.getfield 7, 3) := by decide +kernel
theorem dX8_again_89 : decode cX8_again 89 = .ok (.bipush 82, 2) := by decide +kernel
theorem dX8_again_91 : decode cX8_again 91 = .ok (.iload_n 3, 1) := by decide +kernel
theorem dX8_again_92 : decode cX8_again 92 = .ok (.iadd, 1) := by decide +kernel
theorem dX8_again_93 : decode cX8_again 93 = .ok (.iaload, 1) := by decide +kernel
theorem dX8_again_94 : decode cX8_again 94 = .ok (.isub, 1) := by decide +kernel
theorem dX8_again_95 : decode cX8_again 95 = .ok (.imul, 1) := by decide +kernel
theorem dX8_again_96 : decode cX8_again 96 = .ok (.iconst 2, 1) := by decide +kernel
theorem dX8_again_97 : decode cX8_again 97 = .ok (.invokevirtual 45, 3) := by decide +kernel
theorem dX8_again_100 : decode cX8_again 100 = .ok (.imul, 1) := by decide +kernel
theorem dX8_again_101 : decode cX8_again 101 = .ok (.iadd, 1) := by decide +kernel
theorem dX8_again_102 : decode cX8_again 102 = .ok (.istore_n 1, 1) := by decide +kernel
theorem dX8_again_103 : decode cX8_again 103 = .ok (.iload_n 2, 1) := by decide +kernel
theorem dX8_again_104 : decode cX8_again 104 = .ok (.ineg, 1) := by decide +kernel
theorem dX8_again_105 : decode cX8_again 105 = .ok (.istore_n 2, 1) := by decide +kernel
theorem dX8_again_106 : decode cX8_again 106 = .ok (.iinc 3 1, 3) := by decide +kernel
theorem dX8_again_109 : decode cX8_again 109 = .ok (.goto (-74), 3) := by decide +kernel
theorem dX8_again_112 : decode cX8_again 112 = .ok (.iload_n 1, 1) := by decide +kernel
theorem dX8_again_113 : decode cX8_again 113 = .ok (.ireturn, 1) := by decide +kernel
theorem dX8_isFree_0 : decode cX8_isFree 0 = .ok (.aload_n 0, 1) := by decide +kernel
theorem dX8_isFree_1 : decode cX8_isFree 1 = .ok (.getfield 7, 3) := by decide +kernel
theorem dX8_isFree_4 : decode cX8_isFree 4 = .ok (.iconst 0, 1) := by decide +kernel
theorem dX8_isFree_5 : decode cX8_isFree 5 = .ok (.iaload, 1) := by decide +kernel
theorem dX8_isFree_6 : decode cX8_isFree 6 = .ok (.ifCond .ne 16, 3) := by decide +kernel
theorem dX8_isFree_9 : decode cX8_isFree 9 = .ok (.aload_n 0, 1) := by decide +kernel
theorem dX8_isFree_10 : decode cX8_isFree 10 = .ok (.getfield 7, 3) := by decide +kernel
theorem dX8_isFree_13 : decode cX8_isFree 13 = .ok (.iconst 5, 1) := by decide +kernel
theorem dX8_isFree_14 : decode cX8_isFree 14 = .ok (.iaload, 1) := by decide +kernel
theorem dX8_isFree_15 : decode cX8_isFree 15 = .ok (.ifCond .ne 7, 3) := by decide +kernel
theorem dX8_isFree_18 : decode cX8_isFree 18 = .ok (.iconst 1, 1) := by decide +kernel
theorem dX8_isFree_19 : decode cX8_isFree 19 = .ok (.goto 4, 3) := by decide +kernel
theorem dX8_isFree_22 : decode cX8_isFree 22 = .ok (.iconst 0, 1) := by decide +kernel
theorem dX8_isFree_23 : decode cX8_isFree 23 = .ok (.ireturn, 1) := by decide +kernel
theorem dX8_pointAt_0 : decode cX8_pointAt 0 = .ok (.iconst 0, 1) := by decide +kernel
theorem dX8_pointAt_1 : decode cX8_pointAt 1 = .ok (.istore_n 2, 1) := by decide +kernel
theorem dX8_pointAt_2 : decode cX8_pointAt 2 = .ok (.aload_n 0, 1) := by decide +kernel
theorem dX8_pointAt_3 : decode cX8_pointAt 3 = .ok (.getfield 7, 3) := by decide +kernel
theorem dX8_pointAt_6 : decode cX8_pointAt 6 = .ok (.bipush 10, 2) := by decide +kernel
theorem dX8_pointAt_8 : decode cX8_pointAt 8 = .ok (.iload_n 2, 1) := by decide +kernel
theorem dX8_pointAt_9 : decode cX8_pointAt 9 = .ok (.iadd, 1) := by decide +kernel
theorem dX8_pointAt_10 : decode cX8_pointAt 10 = .ok (.iaload, 1) := by decide +kernel
theorem dX8_pointAt_11 : decode cX8_pointAt 11 = .ok (.iload_n 1, 1) := by decide +kernel
theorem dX8_pointAt_12 : decode cX8_pointAt 12 = .ok (.if_icmp .ge 9, 3) := by decide +kernel
theorem dX8_pointAt_15 : decode cX8_pointAt 15 = .ok (.iinc 2 1, 3) := by decide +kernel
theorem dX8_pointAt_18 : decode cX8_pointAt 18 = .ok (.goto (-16), 3) := by decide +kernel
theorem dX8_pointAt_21 : decode cX8_pointAt 21 = .ok (.iload_n 2, 1) := by decide +kernel
theorem dX8_pointAt_22 : decode cX8_pointAt 22 = .ok (.ireturn, 1) := by decide +kernel
theorem dX8_setPoint_0 : decode cX8_setPoint 0 = .ok (.iload_n 1, 1) := by decide +kernel
theorem dX8_setPoint_1 : decode cX8_setPoint 1 = .ok (.iconst 1, 1) := by decide +kernel
theorem dX8_setPoint_2 : decode cX8_setPoint 2 = .ok (.sipush 1000, 3) := by decide +kernel
theorem dX8_setPoint_5 : decode cX8_setPoint 5 = .ok (.invokestatic 56, 3) := by decide +kernel
theorem dX8_setPoint_8 : decode cX8_setPoint 8 = .ok (.ifCond .eq 14, 3) := by decide +kernel
theorem dX8_setPoint_11 : decode cX8_setPoint 11 = .ok (.iload_n 2, 1) := by decide +kernel
theorem dX8_setPoint_12 : decode cX8_setPoint 12 = .ok (.iconst 1, 1) := by decide +kernel
theorem dX8_setPoint_13 : decode cX8_setPoint 13 = .ok (.sipush 20000, 3) := by decide +kernel
theorem dX8_setPoint_16 : decode cX8_setPoint 16 = .ok (.invokestatic 56, 3) := by decide +kernel
theorem dX8_setPoint_19 : decode cX8_setPoint 19 = .ok (.ifCond .ne 6, 3) := by decide +kernel
theorem dX8_setPoint_22 : decode cX8_setPoint 22 = .ok (.ldc 64, 2) := by decide +kernel
theorem dX8_setPoint_24 : decode cX8_setPoint 24 = .ok (.ireturn, 1) := by decide +kernel
theorem dX8_setPoint_25 : decode cX8_setPoint 25 = .ok (.aload_n 0, 1) := by decide +kernel
theorem dX8_setPoint_26 : decode cX8_setPoint 26 = .ok (.iload_n 1, 1) := by decide +kernel
theorem dX8_setPoint_27 : decode cX8_setPoint 27 = .ok (.invokevirtual 97, 3) := by decide +kernel
theorem dX8_setPoint_30 : decode cX8_setPoint 30 = .ok (.istore_n 3, 1) := by decide +kernel
theorem dX8_setPoint_31 : decode cX8_setPoint 31 = .ok (.aload_n 0, 1) := by decide +kernel
theorem dX8_setPoint_32 : decode cX8_setPoint 32 = .ok (.getfield 7, 3) := by decide +kernel
theorem dX8_setPoint_35 : decode cX8_setPoint 35 = .ok (.bipush 10, 2) := by decide +kernel
theorem dX8_setPoint_37 : decode cX8_setPoint 37 = .ok (.iload_n 3, 1) := by decide +kernel
theorem dX8_setPoint_38 : decode cX8_setPoint 38 = .ok (.iadd, 1) := by decide +kernel
theorem dX8_setPoint_39 : decode cX8_setPoint 39 = .ok (.iaload, 1) := by decide +kernel
theorem dX8_setPoint_40 : decode cX8_setPoint 40 = .ok (.iload_n 1, 1) := by decide +kernel
theorem dX8_setPoint_41 : decode cX8_setPoint 41 = .ok (.if_icmp .ne 7, 3) := by decide +kernel
theorem dX8_setPoint_44 : decode cX8_setPoint 44 = .ok (.iconst 1, 1) := by decide +kernel
theorem dX8_setPoint_45 : decode cX8_setPoint 45 = .ok (.goto 4, 3) := by decide +kernel
theorem dX8_setPoint_48 : decode cX8_setPoint 48 = .ok (.iconst 0, 1) := by decide +kernel
theorem dX8_setPoint_49 : decode cX8_setPoint 49 = .ok (.istore 4, 2) := by decide +kernel
theorem dX8_setPoint_51 : decode cX8_setPoint 51 = .ok (.iload 4, 2) := by decide +kernel
theorem dX8_setPoint_53 : decode cX8_setPoint 53 = .ok (.ifCond .eq 9, 3) := by decide +kernel
theorem dX8_setPoint_56 : decode cX8_setPoint 56 = .ok (.iload_n 3, 1) := by decide +kernel
theorem dX8_setPoint_57 : decode cX8_setPoint 57 = .ok (.iconst 1, 1) := by decide +kernel
theorem dX8_setPoint_58 : decode cX8_setPoint 58 = .ok (.iadd, 1) := by decide +kernel
theorem dX8_setPoint_59 : decode cX8_setPoint 59 = .ok (.goto 4, 3) := by decide +kernel
theorem dX8_setPoint_62 : decode cX8_setPoint 62 = .ok (.iload_n 3, 1) := by decide +kernel
theorem dX8_setPoint_63 : decode cX8_setPoint 63 = .ok (.istore 5, 2) := by decide +kernel
theorem dX8_setPoint_65 : decode cX8_setPoint 65 = .ok (.iload_n 2, 1) := by decide +kernel
theorem dX8_setPoint_66 : decode cX8_setPoint 66 = .ok (.aload_n 0, 1) := by decide +kernel
theorem dX8_setPoint_67 : decode cX8_setPoint 67 = .ok (.getfield 7, 3) := by decide +kernel
theorem dX8_setPoint_70 : decode cX8_setPoint 70 = .ok (.bipush 18, 2) := by decide +kernel
theorem dX8_setPoint_72 : decode cX8_setPoint 72 = .ok (.iload_n 3, 1) := by decide +kernel
theorem dX8_setPoint_73 : decode cX8_setPoint 73 = .ok (.iadd, 1) := by decide +kernel
theorem dX8_setPoint_74 : decode cX8_setPoint 74 = .ok (.iconst 1, 1) := by decide +kernel
theorem dX8_setPoint_75 : decode cX8_setPoint 75 = .ok (.isub, 1) := by decide +kernel
theorem dX8_setPoint_76 : decode cX8_setPoint 76 = .ok (.iaload, 1) := by decide +kernel
theorem dX8_setPoint_77 : decode cX8_setPoint 77 = .ok (.if_icmp .le 33, 3) := by decide +kernel
theorem dX8_setPoint_80 : decode cX8_setPoint 80 = .ok (.iload 5, 2) := by decide +kernel
theorem dX8_setPoint_82 : decode cX8_setPoint 82 = .ok (.aload_n 0, 1) := by decide +kernel
theorem dX8_setPoint_83 : decode cX8_setPoint 83 = .ok (.getfield 7, 3) := by decide +kernel
theorem dX8_setPoint_86 : decode cX8_setPoint 86 = .ok (.bipush 9, 2) := by decide +kernel
theorem dX8_setPoint_88 : decode cX8_setPoint 88 = .ok (.iaload, 1) := by decide +kernel
theorem dX8_setPoint_89 : decode cX8_setPoint 89 = .ok (.if_icmp .eq 17, 3) := by decide +kernel
theorem dX8_setPoint_92 : decode cX8_setPoint 92 = .ok (.iload_n 2, 1) := by decide +kernel
theorem dX8_setPoint_93 : decode cX8_setPoint 93 = .ok (.aload_n 0, 1) := by decide +kernel
theorem dX8_setPoint_94 : decode cX8_setPoint 94 = .ok (.getfield 7, 3) := by decide +kernel
theorem dX8_setPoint_97 : decode cX8_setPoint 97 = .ok (.bipush 18, 2) := by decide +kernel
theorem dX8_setPoint_99 : decode cX8_setPoint 99 = .ok (.iload 5, 2) := by decide +kernel
theorem dX8_setPoint_101 : decode cX8_setPoint 101 = .ok (.iadd, 1) := by decide +kernel
theorem dX8_setPoint_102 : decode cX8_setPoint 102 = .ok (.iaload, 1) := by decide +kernel
theorem dX8_setPoint_103 : decode cX8_setPoint 103 = .ok (.if_icmp .ge 7, 3) := by decide +kernel
theorem dX8_setPoint_106 : decode cX8_setPoint 106 = .ok (.iconst 1, 1) := by decide +kernel
theorem dX8_setPoint_107 : decode cX8_setPoint 107 = .ok (.goto 4, 3) := by decide +kernel
theorem dX8_setPoint_110 : decode cX8_setPoint 110 = .ok (.iconst 0, 1) := by decide +kernel
theorem dX8_setPoint_111 : decode cX8_setPoint 111 = .ok (.istore 6, 2) := by decide +kernel
theorem dX8_setPoint_113 : decode cX8_setPoint 113 = .ok (.aload_n 0, 1) := by decide +kernel
theorem dX8_setPoint_114 : decode cX8_setPoint 114 = .ok (.invokevirtual 100, 3) := by decide +kernel
theorem dX8_setPoint_117 : decode cX8_setPoint 117 = .ok (.ifCond .eq 8, 3) := by decide +kernel
theorem dX8_setPoint_120 : decode cX8_setPoint 120 = .ok (.iload 6, 2) := by decide +kernel
theorem dX8_setPoint_122 : decode cX8_setPoint 122 = .ok (.ifCond .ne 6, 3) := by decide +kernel
theorem dX8_setPoint_125 : decode cX8_setPoint 125 = .ok (.ldc 69, 2) := by decide +kernel
theorem dX8_setPoint_127 : decode cX8_setPoint 127 = .ok (.ireturn, 1) := by decide +kernel
theorem dX8_setPoint_128 : decode cX8_setPoint 128 = .ok (.iload 4, 2) := by decide +kernel
theorem dX8_setPoint_130 : decode cX8_setPoint 130 = .ok (.ifCond .ne 18, 3) := by decide +kernel
theorem dX8_setPoint_133 : decode cX8_setPoint 133 = .ok (.aload_n 0, 1) := by decide +kernel
theorem dX8_setPoint_134 : decode cX8_setPoint 134 = .ok (.getfield 7, 3) := by decide +kernel
theorem dX8_setPoint_137 : decode cX8_setPoint 137 = .ok (.bipush 9, 2) := by decide +kernel
theorem dX8_setPoint_139 : decode cX8_setPoint 139 = .ok (.iaload, 1) := by decide +kernel
theorem dX8_setPoint_140 : decode cX8_setPoint 140 = .ok (.bipush 8, 2) := by decide +kernel
theorem dX8_setPoint_142 : decode cX8_setPoint 142 = .ok (.if_icmp .ne 6, 3) := by decide +kernel
theorem dX8_setPoint_145 : decode cX8_setPoint 145 = .ok (.ldc 104, 2) := by decide +kernel
theorem dX8_setPoint_147 : decode cX8_setPoint 147 = .ok (.ireturn, 1) := by decide +kernel
theorem dX8_setPoint_148 : decode cX8_setPoint 148 = .ok (.aload_n 0, 1) := by decide +kernel
theorem dX8_setPoint_149 : decode cX8_setPoint 149 = .ok (.invokevirtual 70, 3) := by decide +kernel
theorem dX8_setPoint_152 : decode cX8_setPoint 152 = .ok (.iload 4, 2) := by decide +kernel
theorem dX8_setPoint_154 : decode cX8_setPoint 154 = .ok (.ifCond .ne 79, 3) := by decide +kernel
theorem dX8_setPoint_157 : decode cX8_setPoint 157 = .ok (.aload_n 0, 1) := by decide +kernel
theorem dX8_setPoint_158 : decode cX8_setPoint 158 = .ok (.getfield 7, 3) := by decide +kernel
theorem dX8_setPoint_161 : decode cX8_setPoint 161 = .ok (.bipush 9, 2) := by decide +kernel
theorem dX8_setPoint_163 : decode cX8_setPoint 163 = .ok (.iaload, 1) := by decide +kernel
theorem dX8_setPoint_164 : decode cX8_setPoint 164 = .ok (.istore 7, 2) := by decide +kernel
theorem dX8_setPoint_166 : decode cX8_setPoint 166 = .ok (.iload 7, 2) := by decide +kernel
theorem dX8_setPoint_168 : decode cX8_setPoint 168 = .ok (.iload_n 3, 1) := by decide +kernel
theorem dX8_setPoint_169 : decode cX8_setPoint 169 = .ok (.if_icmp .le 53, 3) := by decide +kernel
theorem dX8_setPoint_172 : decode cX8_setPoint 172 = .ok (.aload_n 0, 1) := by decide +kernel
theorem dX8_setPoint_173 : decode cX8_setPoint 173 = .ok (.getfield 7, 3) := by decide +kernel
theorem dX8_setPoint_176 : decode cX8_setPoint 176 = .ok (.bipush 10, 2) := by decide +kernel
theorem dX8_setPoint_178 : decode cX8_setPoint 178 = .ok (.iload 7, 2) := by decide +kernel
theorem dX8_setPoint_180 : decode cX8_setPoint 180 = .ok (.iadd, 1) := by decide +kernel
theorem dX8_setPoint_181 : decode cX8_setPoint 181 = .ok (.aload_n 0, 1) := by decide +kernel
theorem dX8_setPoint_182 : decode cX8_setPoint 182 = .ok (.getfield 7, 3) := by decide +kernel
theorem dX8_setPoint_185 : decode cX8_setPoint 185 = .ok (.bipush 10, 2) := by decide +kernel
theorem dX8_setPoint_187 : decode cX8_setPoint 187 = .ok (.iload 7, 2) := by decide +kernel
theorem dX8_setPoint_189 : decode cX8_setPoint 189 = .ok (.iadd, 1) := by decide +kernel
theorem dX8_setPoint_190 : decode cX8_setPoint 190 = .ok (.iconst 1, 1) := by decide +kernel
theorem dX8_setPoint_191 : decode cX8_setPoint 191 = .ok (.isub, 1) := by decide +kernel
theorem dX8_setPoint_192 : decode cX8_setPoint 192 = .ok (.iaload, 1) := by decide +kernel
theorem dX8_setPoint_193 : decode cX8_setPoint 193 = .ok (.iastore, 1) := by decide +kernel
theorem dX8_setPoint_194 : decode cX8_setPoint 194 = .ok (.aload_n 0, 1) := by decide +kernel
theorem dX8_setPoint_195 : decode cX8_setPoint 195 = .ok (.getfield 7, 3) := by decide +kernel
theorem dX8_setPoint_198 : decode cX8_setPoint 198 = .ok (.bipush 18, 2) := by decide +kernel
theorem dX8_setPoint_200 : decode cX8_setPoint 200 = .ok (.iload 7, 2) := by decide +kernel
theorem dX8_setPoint_202 : decode cX8_setPoint 202 = .ok (.iadd, 1) := by decide +kernel
theorem dX8_setPoint_203 : decode cX8_setPoint 203 = .ok (.aload_n 0, 1) := by decide +kernel
theorem dX8_setPoint_204 : decode cX8_setPoint 204 = .ok (.getfield 7, 3) := by decide +kernel
theorem dX8_setPoint_207 : decode cX8_setPoint 207 = .ok (.bipush 18, 2) := by decide +kernel
theorem dX8_setPoint_209 : decode cX8_setPoint 209 = .ok (.iload 7, 2) := by decide +kernel
theorem dX8_setPoint_211 : decode cX8_setPoint 211 = .ok (.iadd, 1) := by decide +kernel
theorem dX8_setPoint_212 : decode cX8_setPoint 212 = .ok (.iconst 1, 1) := by decide +kernel
theorem dX8_setPoint_213 : decode cX8_setPoint 213 = .ok (.isub, 1) := by decide +kernel
theorem dX8_setPoint_214 : decode cX8_setPoint 214 = .ok (.iaload, 1) := by decide +kernel
theorem dX8_setPoint_215 : decode cX8_setPoint 215 = .ok (.iastore, 1) := by decide +kernel
theorem dX8_setPoint_216 : decode cX8_setPoint 216 = .ok (.iinc 7 (-1), 3) := by decide +kernel
theorem dX8_setPoint_219 : decode cX8_setPoint 219 = .ok (.goto (-53), 3) := by decide +kernel
theorem dX8_setPoint_222 : decode cX8_setPoint 222 = .ok (.aload_n 0, 1) := by decide +kernel
theorem dX8_setPoint_223 : decode cX8_setPoint 223 = .ok (.getfield 7, 3) := by decide +kernel
theorem dX8_setPoint_226 : decode cX8_setPoint 226 = .ok (.bipush 9, 2) := by decide +kernel
theorem dX8_setPoint_228 : decode cX8_setPoint 228 = .ok (.dup2, 1) := by decide +kernel
theorem dX8_setPoint_229 : decode cX8_setPoint 229 = .ok (.iaload, 1) := by decide +kernel
theorem dX8_setPoint_230 : decode cX8_setPoint 230 = .ok (.iconst 1, 1) := by decide +kernel
theorem dX8_setPoint_231 : decode cX8_setPoint 231 = .ok (.iadd, 1) := by decide +kernel
theorem dX8_setPoint_232 : decode cX8_setPoint 232 = .ok (.iastore, 1) := by decide +kernel
theorem dX8_setPoint_233 : decode cX8_setPoint 233 = .ok (.aload_n 0, 1) := by decide +kernel
theorem dX8_setPoint_234 : decode cX8_setPoint 234 = .ok (.getfield 7, 3) := by decide +kernel
theorem dX8_setPoint_237 : decode cX8_setPoint 237 = .ok (.bipush 10, 2) := by decide +kernel
theorem dX8_setPoint_239 : decode cX8_setPoint 239 = .ok (.iload_n 3, 1) := by decide +kernel
theorem dX8_setPoint_240 : decode cX8_setPoint 240 = .ok (.iadd, 1) := by decide +kernel
theorem dX8_setPoint_241 : decode cX8_setPoint 241 = .ok (.iload_n 1, 1) := by decide +kernel
theorem dX8_setPoint_242 : decode cX8_setPoint 242 = .ok (.iastore, 1) := by decide +kernel
theorem dX8_setPoint_243 : decode cX8_setPoint 243 = .ok (.aload_n 0, 1) := by decide +kernel
theorem dX8_setPoint_244 : decode cX8_setPoint 244 = .ok (.getfield 7, 3) := by decide +kernel
theorem dX8_setPoint_247 : decode cX8_setPoint 247 = .ok (.bipush 18, 2) := by decide +kernel
theorem dX8_setPoint_249 : decode cX8_setPoint 249 = .ok (.iload_n 3, 1) := by decide +kernel
theorem dX8_setPoint_250 : decode cX8_setPoint 250 = .ok (.iadd, 1) := by decide +kernel
theorem dX8_setPoint_251 : decode cX8_setPoint 251 = .ok (.iload_n 2, 1) := by decide +kernel
theorem dX8_setPoint_252 : decode cX8_setPoint 252 = .ok (.iastore, 1) := by decide +kernel
theorem dX8_setPoint_253 : decode cX8_setPoint 253 = .ok (.aload_n 0, 1) := by decide +kernel
theorem dX8_setPoint_254 : decode cX8_setPoint 254 = .ok (.getfield 7, 3) := by decide +kernel
theorem dX8_setPoint_257 : decode cX8_setPoint 257 = .ok (.bipush 9, 2) := by decide +kernel
theorem dX8_setPoint_259 : decode cX8_setPoint 259 = .ok (.iaload, 1) := by decide +kernel
theorem dX8_setPoint_260 : decode cX8_setPoint 260 = .ok (.ireturn, 1) := by decide +kernel
theorem dX8_removePoint_0 : decode cX8_removePoint 0 = .ok (.iload_n 1, 1) := by decide +kernel
theorem dX8_removePoint_1 : decode cX8_removePoint 1 = .ok (.iconst 1, 1) := by decide +kernel
theorem dX8_removePoint_2 : decode cX8_removePoint 2 = .ok (.sipush 999, 3) := by decide +kernel
theorem dX8_removePoint_5 : decode cX8_removePoint 5 = .ok (.invokestatic 56, 3) := by decide +kernel
theorem dX8_removePoint_8 : decode cX8_removePoint 8 = .ok (.ifCond .ne 6, 3) := by decide +kernel
theorem dX8_removePoint_11 : decode cX8_removePoint 11 = .ok (.ldc 64, 2) := by decide +kernel
theorem dX8_removePoint_13 : decode cX8_removePoint 13 = .ok (.ireturn, 1) := by decide +kernel
theorem dX8_removePoint_14 : decode cX8_removePoint 14 = .ok (.aload_n 0, 1) := by decide +kernel
theorem dX8_removePoint_15 : decode cX8_removePoint 15 = .ok (.invokevirtual 100, 3) := by decide +kernel
theorem dX8_removePoint_18 : decode cX8_removePoint 18 = .ok (.ifCond .ne 6, 3) := by decide +kernel
theorem dX8_removePoint_21 : decode cX8_removePoint 21 = .ok (.ldc 69, 2) := by decide +kernel
theorem dX8_removePoint_23 : decode cX8_removePoint 23 = .ok (.ireturn, 1) := by decide +kernel
theorem dX8_removePoint_24 : decode cX8_removePoint 24 = .ok (.aload_n 0, 1) := by decide +kernel
theorem dX8_removePoint_25 : decode cX8_removePoint 25 = .ok (.iload_n 1, 1) := by decide +kernel
theorem dX8_removePoint_26 : decode cX8_removePoint 26 = .ok (.invokevirtual 97, 3) := by decide +kernel
theorem dX8_removePoint_29 : decode cX8_removePoint 29 = .ok (.istore_n 2, 1) := by decide +kernel
theorem dX8_removePoint_30 : decode cX8_removePoint 30 = .ok (.aload_n 0, 1) := by decide +kernel
theorem dX8_removePoint_31 : decode cX8_removePoint 31 = .ok (.getfield 7, 3) := by decide +kernel
theorem dX8_removePoint_34 : decode cX8_removePoint 34 = .ok (.bipush 10, 2) := by decide +kernel
theorem dX8_removePoint_36 : decode cX8_removePoint 36 = .ok (.iload_n 2, 1) := by decide +kernel
theorem dX8_removePoint_37 : decode cX8_removePoint 37 = .ok (.iadd, 1) := by decide +kernel
theorem dX8_removePoint_38 : decode cX8_removePoint 38 = .ok (.iaload, 1) := by decide +kernel
theorem dX8_removePoint_39 : decode cX8_removePoint 39 = .ok (.iload_n 1, 1) := by decide +kernel
theorem dX8_removePoint_40 : decode cX8_removePoint 40 = .ok (.if_icmp .eq 6, 3) := by decide +kernel
theorem dX8_removePoint_43 : decode cX8_removePoint 43 = .ok (.ldc 96, 2) := by decide +kernel
theorem dX8_removePoint_45 : decode cX8_removePoint 45 = .ok (.ireturn, 1) := by decide +kernel
theorem dX8_removePoint_46 : decode cX8_removePoint 46 = .ok (.aload_n 0, 1) := by decide +kernel
theorem dX8_removePoint_47 : decode cX8_removePoint 47 = .ok (.invokevirtual 70, 3) := by decide +kernel
theorem dX8_removePoint_50 : decode cX8_removePoint 50 = .ok (.aload_n 0, 1) := by decide +kernel
theorem dX8_removePoint_51 : decode cX8_removePoint 51 = .ok (.getfield 7, 3) := by decide +kernel
theorem dX8_removePoint_54 : decode cX8_removePoint 54 = .ok (.bipush 18, 2) := by decide +kernel
theorem dX8_removePoint_56 : decode cX8_removePoint 56 = .ok (.iload_n 2, 1) := by decide +kernel
theorem dX8_removePoint_57 : decode cX8_removePoint 57 = .ok (.iadd, 1) := by decide +kernel
theorem dX8_removePoint_58 : decode cX8_removePoint 58 = .ok (.iaload, 1) := by decide +kernel
theorem dX8_removePoint_59 : decode cX8_removePoint 59 = .ok (.istore_n 3, 1) := by decide +kernel
theorem dX8_removePoint_60 : decode cX8_removePoint 60 = .ok (.aload_n 0, 1) := by decide +kernel
theorem dX8_removePoint_61 : decode cX8_removePoint 61 = .ok (.getfield 7, 3) := by decide +kernel
theorem dX8_removePoint_64 : decode cX8_removePoint 64 = .ok (.bipush 9, 2) := by decide +kernel
theorem dX8_removePoint_66 : decode cX8_removePoint 66 = .ok (.dup2, 1) := by decide +kernel
theorem dX8_removePoint_67 : decode cX8_removePoint 67 = .ok (.iaload, 1) := by decide +kernel
theorem dX8_removePoint_68 : decode cX8_removePoint 68 = .ok (.iconst 1, 1) := by decide +kernel
theorem dX8_removePoint_69 : decode cX8_removePoint 69 = .ok (.isub, 1) := by decide +kernel
theorem dX8_removePoint_70 : decode cX8_removePoint 70 = .ok (.iastore, 1) := by decide +kernel
theorem dX8_removePoint_71 : decode cX8_removePoint 71 = .ok (.iload_n 2, 1) := by decide +kernel
theorem dX8_removePoint_72 : decode cX8_removePoint 72 = .ok (.istore 4, 2) := by decide +kernel
theorem dX8_removePoint_74 : decode cX8_removePoint 74 = .ok (.iload 4, 2) := by decide +kernel
theorem dX8_removePoint_76 : decode cX8_removePoint 76 = .ok (.aload_n 0, 1) := by decide +kernel
theorem dX8_removePoint_77 : decode cX8_removePoint 77 = .ok (.getfield 7, 3) := by decide +kernel
theorem dX8_removePoint_80 : decode cX8_removePoint 80 = .ok (.bipush 9, 2) := by decide +kernel
theorem dX8_removePoint_82 : decode cX8_removePoint 82 = .ok (.iaload, 1) := by decide +kernel
theorem dX8_removePoint_83 : decode cX8_removePoint 83 = .ok (.if_icmp .ge 53, 3) := by decide +kernel
theorem dX8_removePoint_86 : decode cX8_removePoint 86 = .ok (.aload_n 0, 1) := by decide +kernel
theorem dX8_removePoint_87 : decode cX8_removePoint 87 = .ok (.getfield 7, 3) := by decide +kernel
theorem dX8_removePoint_90 : decode cX8_removePoint 90 = .ok (.bipush 10, 2) := by decide +kernel
theorem dX8_removePoint_92 : decode cX8_removePoint 92 = .ok (.iload 4, 2) := by decide +kernel
theorem dX8_removePoint_94 : decode cX8_removePoint 94 = .ok (.iadd, 1) := by decide +kernel
theorem dX8_removePoint_95 : decode cX8_removePoint 95 = .ok (.aload_n 0, 1) := by decide +kernel
theorem dX8_removePoint_96 : decode cX8_removePoint 96 = .ok (.getfield 7, 3) := by decide +kernel
theorem dX8_removePoint_99 : decode cX8_removePoint 99 = .ok (.bipush 10, 2) := by decide +kernel
theorem dX8_removePoint_101 : decode cX8_removePoint 101 = .ok (.iload 4, 2) := by decide +kernel
theorem dX8_removePoint_103 : decode cX8_removePoint 103 = .ok (.iadd, 1) := by decide +kernel
theorem dX8_removePoint_104 : decode cX8_removePoint 104 = .ok (.iconst 1, 1) := by decide +kernel
theorem dX8_removePoint_105 : decode cX8_removePoint 105 = .ok (.iadd, 1) := by decide +kernel
theorem dX8_removePoint_106 : decode cX8_removePoint 106 = .ok (.iaload, 1) := by decide +kernel
theorem dX8_removePoint_107 : decode cX8_removePoint 107 = .ok (.iastore, 1) := by decide +kernel
theorem dX8_removePoint_108 : decode cX8_removePoint 108 = .ok (.aload_n 0, 1) := by decide +kernel
theorem dX8_removePoint_109 : decode cX8_removePoint 109 = .ok (.getfield 7, 3) := by decide +kernel
theorem dX8_removePoint_112 : decode cX8_removePoint 112 = .ok (.bipush 18, 2) := by decide +kernel
theorem dX8_removePoint_114 : decode cX8_removePoint 114 = .ok (.iload 4, 2) := by decide +kernel
theorem dX8_removePoint_116 : decode cX8_removePoint 116 = .ok (.iadd, 1) := by decide +kernel
theorem dX8_removePoint_117 : decode cX8_removePoint 117 = .ok (.aload_n 0, 1) := by decide +kernel
theorem dX8_removePoint_118 : decode cX8_removePoint 118 = .ok (.getfield 7, 3) := by decide +kernel
theorem dX8_removePoint_121 : decode cX8_removePoint 121 = .ok (.bipush 18, 2) := by decide +kernel
theorem dX8_removePoint_123 : decode cX8_removePoint 123 = .ok (.iload 4, 2) := by decide +kernel
theorem dX8_removePoint_125 : decode cX8_removePoint 125 = .ok (.iadd, 1) := by decide +kernel
theorem dX8_removePoint_126 : decode cX8_removePoint 126 = .ok (.iconst 1, 1) := by decide +kernel
theorem dX8_removePoint_127 : decode cX8_removePoint 127 = .ok (.iadd, 1) := by decide +kernel
theorem dX8_removePoint_128 : decode cX8_removePoint 128 = .ok (.iaload, 1) := by decide +kernel
theorem dX8_removePoint_129 : decode cX8_removePoint 129 = .ok (.iastore, 1) := by decide +kernel
theorem dX8_removePoint_130 : decode cX8_removePoint 130 = .ok (.iinc 4 1, 3) := by decide +kernel
theorem dX8_removePoint_133 : decode cX8_removePoint 133 = .ok (.goto (-59), 3) := by decide +kernel
theorem dX8_removePoint_136 : decode cX8_removePoint 136 = .ok (.iload_n 3, 1) := by decide +kernel
theorem dX8_removePoint_137 : decode cX8_removePoint 137 = .ok (.ireturn, 1) := by decide +kernel
theorem dX8_curve_0 : decode cX8_curve 0 = .ok (.iload_n 1, 1) := by decide +kernel
theorem dX8_curve_1 : decode cX8_curve 1 = .ok (.iconst 0, 1) := by decide +kernel
theorem dX8_curve_2 : decode cX8_curve 2 = .ok (.iconst 1, 1) := by decide +kernel
theorem dX8_curve_3 : decode cX8_curve 3 = .ok (.invokestatic 56, 3) := by decide +kernel
theorem dX8_curve_6 : decode cX8_curve 6 = .ok (.ifCond .eq 25, 3) := by decide +kernel
theorem dX8_curve_9 : decode cX8_curve 9 = .ok (.iload_n 2, 1) := by decide +kernel
theorem dX8_curve_10 : decode cX8_curve 10 = .ok (.iconst 0, 1) := by decide +kernel
theorem dX8_curve_11 : decode cX8_curve 11 = .ok (.sipush 1000, 3) := by decide +kernel
theorem dX8_curve_14 : decode cX8_curve 14 = .ok (.invokestatic 56, 3) := by decide +kernel
theorem dX8_curve_17 : decode cX8_curve 17 = .ok (.ifCond .eq 14, 3) := by decide +kernel
theorem dX8_curve_20 : decode cX8_curve 20 = .ok (.aload_n 0, 1) := by decide +kernel
theorem dX8_curve_21 : decode cX8_curve 21 = .ok (.iload_n 2, 1) := by decide +kernel
theorem dX8_curve_22 : decode cX8_curve 22 = .ok (.iload_n 1, 1) := by decide +kernel
theorem dX8_curve_23 : decode cX8_curve 23 = .ok (.iconst 1, 1) := by decide +kernel
theorem dX8_curve_24 : decode cX8_curve 24 = .ok (.iadd, 1) := by decide +kernel
theorem dX8_curve_25 : decode cX8_curve 25 = .ok (.invokevirtual 45, 3) := by decide +kernel
theorem dX8_curve_28 : decode cX8_curve 28 = .ok (.goto 5, 3) := by decide +kernel
theorem dX8_curve_31 : decode cX8_curve 31 = .ok (.ldc 64, 2) := by decide +kernel
theorem dX8_curve_33 : decode cX8_curve 33 = .ok (.ireturn, 1) := by decide +kernel
theorem dX8_setBreak_0 : decode cX8_setBreak 0 = .ok (.iload_n 1, 1) := by decide +kernel
theorem dX8_setBreak_1 : decode cX8_setBreak 1 = .ok (.sipush (-1000), 3) := by decide +kernel
theorem dX8_setBreak_4 : decode cX8_setBreak 4 = .ok (.sipush 30000, 3) := by decide +kernel
theorem dX8_setBreak_7 : decode cX8_setBreak 7 = .ok (.invokestatic 56, 3) := by decide +kernel
theorem dX8_setBreak_10 : decode cX8_setBreak 10 = .ok (.ifCond .eq 14, 3) := by decide +kernel
theorem dX8_setBreak_13 : decode cX8_setBreak 13 = .ok (.iload_n 2, 1) := by decide +kernel
theorem dX8_setBreak_14 : decode cX8_setBreak 14 = .ok (.iconst 0, 1) := by decide +kernel
theorem dX8_setBreak_15 : decode cX8_setBreak 15 = .ok (.sipush 1000, 3) := by decide +kernel
theorem dX8_setBreak_18 : decode cX8_setBreak 18 = .ok (.invokestatic 56, 3) := by decide +kernel
theorem dX8_setBreak_21 : decode cX8_setBreak 21 = .ok (.ifCond .ne 6, 3) := by decide +kernel
theorem dX8_setBreak_24 : decode cX8_setBreak 24 = .ok (.ldc 64, 2) := by decide +kernel
theorem dX8_setBreak_26 : decode cX8_setBreak 26 = .ok (.ireturn, 1) := by decide +kernel
theorem dX8_setBreak_27 : decode cX8_setBreak 27 = .ok (.iconst 0, 1) := by decide +kernel
theorem dX8_setBreak_28 : decode cX8_setBreak 28 = .ok (.istore_n 3, 1) := by decide +kernel
theorem dX8_setBreak_29 : decode cX8_setBreak 29 = .ok (.iload_n 3, 1) := by decide +kernel
theorem dX8_setBreak_30 : decode cX8_setBreak 30 = .ok (.aload_n 0, 1) := by decide +kernel
theorem dX8_setBreak_31 : decode cX8_setBreak 31 = .ok (.getfield 7, 3) := by decide +kernel
theorem dX8_setBreak_34 : decode cX8_setBreak 34 = .ok (.bipush 26, 2) := by decide +kernel
theorem dX8_setBreak_36 : decode cX8_setBreak 36 = .ok (.iaload, 1) := by decide +kernel
theorem dX8_setBreak_37 : decode cX8_setBreak 37 = .ok (.if_icmp .ge 22, 3) := by decide +kernel
theorem dX8_setBreak_40 : decode cX8_setBreak 40 = .ok (.aload_n 0, 1) := by decide +kernel
theorem dX8_setBreak_41 : decode cX8_setBreak 41 = .ok (.getfield 7, 3) := by decide +kernel
theorem dX8_setBreak_44 : decode cX8_setBreak 44 = .ok (.bipush 27, 2) := by decide +kernel
theorem dX8_setBreak_46 : decode cX8_setBreak 46 = .ok (.iload_n 3, 1) := by decide +kernel
theorem dX8_setBreak_47 : decode cX8_setBreak 47 = .ok (.iadd, 1) := by decide +kernel
theorem dX8_setBreak_48 : decode cX8_setBreak 48 = .ok (.iaload, 1) := by decide +kernel
theorem dX8_setBreak_49 : decode cX8_setBreak 49 = .ok (.iload_n 1, 1) := by decide +kernel
theorem dX8_setBreak_50 : decode cX8_setBreak 50 = .ok (.if_icmp .ge 9, 3) := by decide +kernel
theorem dX8_setBreak_53 : decode cX8_setBreak 53 = .ok (.iinc 3 1, 3) := by decide +kernel
theorem dX8_setBreak_56 : decode cX8_setBreak 56 = .ok (.goto (-27), 3) := by decide +kernel
theorem dX8_setBreak_59 : decode cX8_setBreak 59 = .ok (.iload_n 3, 1) := by decide +kernel
theorem dX8_setBreak_60 : decode cX8_setBreak 60 = .ok (.aload_n 0, 1) := by decide +kernel
theorem dX8_setBreak_61 : decode cX8_setBreak 61 = .ok (.getfield 7, 3) := by decide +kernel
theorem dX8_setBreak_64 : decode cX8_setBreak 64 = .ok (.bipush 26, 2) := by decide +kernel
theorem dX8_setBreak_66 : decode cX8_setBreak 66 = .ok (.iaload, 1) := by decide +kernel
theorem dX8_setBreak_67 : decode cX8_setBreak 67 = .ok (.if_icmp .ge 20, 3) := by decide +kernel
theorem dX8_setBreak_70 : decode cX8_setBreak 70 = .ok (.aload_n 0, 1) := by decide +kernel
theorem dX8_setBreak_71 : decode cX8_setBreak 71 = .ok (.getfield 7, 3) := by decide +kernel
theorem dX8_setBreak_74 : decode cX8_setBreak 74 = .ok (.bipush 27, 2) := by decide +kernel
theorem dX8_setBreak_76 : decode cX8_setBreak 76 = .ok (.iload_n 3, 1) := by decide +kernel
theorem dX8_setBreak_77 : decode cX8_setBreak 77 = .ok (.iadd, 1) := by decide +kernel
theorem dX8_setBreak_78 : decode cX8_setBreak 78 = .ok (.iaload, 1) := by decide +kernel
theorem dX8_setBreak_79 : decode cX8_setBreak 79 = .ok (.iload_n 1, 1) := by decide +kernel
theorem dX8_setBreak_80 : decode cX8_setBreak 80 = .ok (.if_icmp .ne 7, 3) := by decide +kernel
theorem dX8_setBreak_83 : decode cX8_setBreak 83 = .ok (.iconst 1, 1) := by decide +kernel
theorem dX8_setBreak_84 : decode cX8_setBreak 84 = .ok (.goto 4, 3) := by decide +kernel
theorem dX8_setBreak_87 : decode cX8_setBreak 87 = .ok (.iconst 0, 1) := by decide +kernel
theorem dX8_setBreak_88 : decode cX8_setBreak 88 = .ok (.istore 4, 2) := by decide +kernel
theorem dX8_setBreak_90 : decode cX8_setBreak 90 = .ok (.iload 4, 2) := by decide +kernel
theorem dX8_setBreak_92 : decode cX8_setBreak 92 = .ok (.ifCond .eq 9, 3) := by decide +kernel
theorem dX8_setBreak_95 : decode cX8_setBreak 95 = .ok (.iload_n 3, 1) := by decide +kernel
theorem dX8_setBreak_96 : decode cX8_setBreak 96 = .ok (.iconst 1, 1) := by decide +kernel
theorem dX8_setBreak_97 : decode cX8_setBreak 97 = .ok (.iadd, 1) := by decide +kernel
theorem dX8_setBreak_98 : decode cX8_setBreak 98 = .ok (.goto 4, 3) := by decide +kernel
theorem dX8_setBreak_101 : decode cX8_setBreak 101 = .ok (.iload_n 3, 1) := by decide +kernel
theorem dX8_setBreak_102 : decode cX8_setBreak 102 = .ok (.istore 5, 2) := by decide +kernel
theorem dX8_setBreak_104 : decode cX8_setBreak 104 = .ok (.iload_n 3, 1) := by decide +kernel
theorem dX8_setBreak_105 : decode cX8_setBreak 105 = .ok (.ifCond .le 18, 3) := by decide +kernel
theorem dX8_setBreak_108 : decode cX8_setBreak 108 = .ok (.iload_n 2, 1) := by decide +kernel
theorem dX8_setBreak_109 : decode cX8_setBreak 109 = .ok (.aload_n 0, 1) := by decide +kernel
theorem dX8_setBreak_110 : decode cX8_setBreak 110 = .ok (.getfield 7, 3) := by decide +kernel
theorem dX8_setBreak_113 : decode cX8_setBreak 113 = .ok (.bipush 34, 2) := by decide +kernel
theorem dX8_setBreak_115 : decode cX8_setBreak 115 = .ok (.iload_n 3, 1) := by decide +kernel
theorem dX8_setBreak_116 : decode cX8_setBreak 116 = .ok (.iadd, 1) := by decide +kernel
theorem dX8_setBreak_117 : decode cX8_setBreak 117 = .ok (.iconst 1, 1) := by decide +kernel
theorem dX8_setBreak_118 : decode cX8_setBreak 118 = .ok (.isub, 1) := by decide +kernel
theorem dX8_setBreak_119 : decode cX8_setBreak 119 = .ok (.iaload, 1) := by decide +kernel
theorem dX8_setBreak_120 : decode cX8_setBreak 120 = .ok (.if_icmp .le 29, 3) := by decide +kernel
theorem dX8_setBreak_123 : decode cX8_setBreak 123 = .ok (.iload 5, 2) := by decide +kernel
theorem dX8_setBreak_125 : decode cX8_setBreak 125 = .ok (.aload_n 0, 1) := by decide +kernel
theorem dX8_setBreak_126 : decode cX8_setBreak 126 = .ok (.getfield 7, 3) := by decide +kernel
theorem dX8_setBreak_129 : decode cX8_setBreak 129 = .ok (.bipush 26, 2) := by decide +kernel
theorem dX8_setBreak_131 : decode cX8_setBreak 131 = .ok (.iaload, 1) := by decide +kernel
theorem dX8_setBreak_132 : decode cX8_setBreak 132 = .ok (.if_icmp .ge 20, 3) := by decide +kernel
theorem dX8_setBreak_135 : decode cX8_setBreak 135 = .ok (.iload_n 2, 1) := by decide +kernel
theorem dX8_setBreak_136 : decode cX8_setBreak 136 = .ok (.aload_n 0, 1) := by decide +kernel
theorem dX8_setBreak_137 : decode cX8_setBreak 137 = .ok (.getfield 7, 3) := by decide +kernel
theorem dX8_setBreak_140 : decode cX8_setBreak 140 = .ok (.bipush 34, 2) := by decide +kernel
theorem dX8_setBreak_142 : decode cX8_setBreak 142 = .ok (.iload 5, 2) := by decide +kernel
theorem dX8_setBreak_144 : decode cX8_setBreak 144 = .ok (.iadd, 1) := by decide +kernel
theorem dX8_setBreak_145 : decode cX8_setBreak 145 = .ok (.iaload, 1) := by decide +kernel
theorem dX8_setBreak_146 : decode cX8_setBreak 146 = .ok (.if_icmp .lt 6, 3) := by decide +kernel
theorem dX8_setBreak_149 : decode cX8_setBreak 149 = .ok (.ldc 69, 2) := by decide +kernel
theorem dX8_setBreak_151 : decode cX8_setBreak 151 = .ok (.ireturn, 1) := by decide +kernel
theorem dX8_setBreak_152 : decode cX8_setBreak 152 = .ok (.iload 4, 2) := by decide +kernel
theorem dX8_setBreak_154 : decode cX8_setBreak 154 = .ok (.ifCond .ne 18, 3) := by decide +kernel
theorem dX8_setBreak_157 : decode cX8_setBreak 157 = .ok (.aload_n 0, 1) := by decide +kernel
theorem dX8_setBreak_158 : decode cX8_setBreak 158 = .ok (.getfield 7, 3) := by decide +kernel
theorem dX8_setBreak_161 : decode cX8_setBreak 161 = .ok (.bipush 26, 2) := by decide +kernel
theorem dX8_setBreak_163 : decode cX8_setBreak 163 = .ok (.iaload, 1) := by decide +kernel
theorem dX8_setBreak_164 : decode cX8_setBreak 164 = .ok (.bipush 6, 2) := by decide +kernel
theorem dX8_setBreak_166 : decode cX8_setBreak 166 = .ok (.if_icmp .ne 6, 3) := by decide +kernel
theorem dX8_setBreak_169 : decode cX8_setBreak 169 = .ok (.ldc 104, 2) := by decide +kernel
theorem dX8_setBreak_171 : decode cX8_setBreak 171 = .ok (.ireturn, 1) := by decide +kernel
theorem dX8_setBreak_172 : decode cX8_setBreak 172 = .ok (.aload_n 0, 1) := by decide +kernel
theorem dX8_setBreak_173 : decode cX8_setBreak 173 = .ok (.invokevirtual 70, 3) := by decide +kernel
theorem dX8_setBreak_176 : decode cX8_setBreak 176 = .ok (.iload 4, 2) := by decide +kernel
theorem dX8_setBreak_178 : decode cX8_setBreak 178 = .ok (.ifCond .ne 79, 3) := by decide +kernel
theorem dX8_setBreak_181 : decode cX8_setBreak 181 = .ok (.aload_n 0, 1) := by decide +kernel
theorem dX8_setBreak_182 : decode cX8_setBreak 182 = .ok (.getfield 7, 3) := by decide +kernel
theorem dX8_setBreak_185 : decode cX8_setBreak 185 = .ok (.bipush 26, 2) := by decide +kernel
theorem dX8_setBreak_187 : decode cX8_setBreak 187 = .ok (.iaload, 1) := by decide +kernel
theorem dX8_setBreak_188 : decode cX8_setBreak 188 = .ok (.istore 6, 2) := by decide +kernel
theorem dX8_setBreak_190 : decode cX8_setBreak 190 = .ok (.iload 6, 2) := by decide +kernel
theorem dX8_setBreak_192 : decode cX8_setBreak 192 = .ok (.iload_n 3, 1) := by decide +kernel
theorem dX8_setBreak_193 : decode cX8_setBreak 193 = .ok (.if_icmp .le 53, 3) := by decide +kernel
theorem dX8_setBreak_196 : decode cX8_setBreak 196 = .ok (.aload_n 0, 1) := by decide +kernel
theorem dX8_setBreak_197 : decode cX8_setBreak 197 = .ok (.getfield 7, 3) := by decide +kernel
theorem dX8_setBreak_200 : decode cX8_setBreak 200 = .ok (.bipush 27, 2) := by decide +kernel
theorem dX8_setBreak_202 : decode cX8_setBreak 202 = .ok (.iload 6, 2) := by decide +kernel
theorem dX8_setBreak_204 : decode cX8_setBreak 204 = .ok (.iadd, 1) := by decide +kernel
theorem dX8_setBreak_205 : decode cX8_setBreak 205 = .ok (.aload_n 0, 1) := by decide +kernel
theorem dX8_setBreak_206 : decode cX8_setBreak 206 = .ok (.getfield 7, 3) := by decide +kernel
theorem dX8_setBreak_209 : decode cX8_setBreak 209 = .ok (.bipush 27, 2) := by decide +kernel
theorem dX8_setBreak_211 : decode cX8_setBreak 211 = .ok (.iload 6, 2) := by decide +kernel
theorem dX8_setBreak_213 : decode cX8_setBreak 213 = .ok (.iadd, 1) := by decide +kernel
theorem dX8_setBreak_214 : decode cX8_setBreak 214 = .ok (.iconst 1, 1) := by decide +kernel
theorem dX8_setBreak_215 : decode cX8_setBreak 215 = .ok (.isub, 1) := by decide +kernel
theorem dX8_setBreak_216 : decode cX8_setBreak 216 = .ok (.iaload, 1) := by decide +kernel
theorem dX8_setBreak_217 : decode cX8_setBreak 217 = .ok (.iastore, 1) := by decide +kernel
theorem dX8_setBreak_218 : decode cX8_setBreak 218 = .ok (.aload_n 0, 1) := by decide +kernel
theorem dX8_setBreak_219 : decode cX8_setBreak 219 = .ok (.getfield 7, 3) := by decide +kernel
theorem dX8_setBreak_222 : decode cX8_setBreak 222 = .ok (.bipush 34, 2) := by decide +kernel
theorem dX8_setBreak_224 : decode cX8_setBreak 224 = .ok (.iload 6, 2) := by decide +kernel
theorem dX8_setBreak_226 : decode cX8_setBreak 226 = .ok (.iadd, 1) := by decide +kernel
theorem dX8_setBreak_227 : decode cX8_setBreak 227 = .ok (.aload_n 0, 1) := by decide +kernel
theorem dX8_setBreak_228 : decode cX8_setBreak 228 = .ok (.getfield 7, 3) := by decide +kernel
theorem dX8_setBreak_231 : decode cX8_setBreak 231 = .ok (.bipush 34, 2) := by decide +kernel
theorem dX8_setBreak_233 : decode cX8_setBreak 233 = .ok (.iload 6, 2) := by decide +kernel
theorem dX8_setBreak_235 : decode cX8_setBreak 235 = .ok (.iadd, 1) := by decide +kernel
theorem dX8_setBreak_236 : decode cX8_setBreak 236 = .ok (.iconst 1, 1) := by decide +kernel
theorem dX8_setBreak_237 : decode cX8_setBreak 237 = .ok (.isub, 1) := by decide +kernel
theorem dX8_setBreak_238 : decode cX8_setBreak 238 = .ok (.iaload, 1) := by decide +kernel
theorem dX8_setBreak_239 : decode cX8_setBreak 239 = .ok (.iastore, 1) := by decide +kernel
theorem dX8_setBreak_240 : decode cX8_setBreak 240 = .ok (.iinc 6 (-1), 3) := by decide +kernel
theorem dX8_setBreak_243 : decode cX8_setBreak 243 = .ok (.goto (-53), 3) := by decide +kernel
theorem dX8_setBreak_246 : decode cX8_setBreak 246 = .ok (.aload_n 0, 1) := by decide +kernel
theorem dX8_setBreak_247 : decode cX8_setBreak 247 = .ok (.getfield 7, 3) := by decide +kernel
theorem dX8_setBreak_250 : decode cX8_setBreak 250 = .ok (.bipush 26, 2) := by decide +kernel
theorem dX8_setBreak_252 : decode cX8_setBreak 252 = .ok (.dup2, 1) := by decide +kernel
theorem dX8_setBreak_253 : decode cX8_setBreak 253 = .ok (.iaload, 1) := by decide +kernel
theorem dX8_setBreak_254 : decode cX8_setBreak 254 = .ok (.iconst 1, 1) := by decide +kernel
theorem dX8_setBreak_255 : decode cX8_setBreak 255 = .ok (.iadd, 1) := by decide +kernel
theorem dX8_setBreak_256 : decode cX8_setBreak 256 = .ok (.iastore, 1) := by decide +kernel
theorem dX8_setBreak_257 : decode cX8_setBreak 257 = .ok (.aload_n 0, 1) := by decide +kernel
theorem dX8_setBreak_258 : decode cX8_setBreak 258 = .ok (.getfield 7, 3) := by decide +kernel
theorem dX8_setBreak_261 : decode cX8_setBreak 261 = .ok (.bipush 27, 2) := by decide +kernel
theorem dX8_setBreak_263 : decode cX8_setBreak 263 = .ok (.iload_n 3, 1) := by decide +kernel
theorem dX8_setBreak_264 : decode cX8_setBreak 264 = .ok (.iadd, 1) := by decide +kernel
theorem dX8_setBreak_265 : decode cX8_setBreak 265 = .ok (.iload_n 1, 1) := by decide +kernel
theorem dX8_setBreak_266 : decode cX8_setBreak 266 = .ok (.iastore, 1) := by decide +kernel
theorem dX8_setBreak_267 : decode cX8_setBreak 267 = .ok (.aload_n 0, 1) := by decide +kernel
theorem dX8_setBreak_268 : decode cX8_setBreak 268 = .ok (.getfield 7, 3) := by decide +kernel
theorem dX8_setBreak_271 : decode cX8_setBreak 271 = .ok (.bipush 34, 2) := by decide +kernel
theorem dX8_setBreak_273 : decode cX8_setBreak 273 = .ok (.iload_n 3, 1) := by decide +kernel
theorem dX8_setBreak_274 : decode cX8_setBreak 274 = .ok (.iadd, 1) := by decide +kernel
theorem dX8_setBreak_275 : decode cX8_setBreak 275 = .ok (.iload_n 2, 1) := by decide +kernel
theorem dX8_setBreak_276 : decode cX8_setBreak 276 = .ok (.iastore, 1) := by decide +kernel
theorem dX8_setBreak_277 : decode cX8_setBreak 277 = .ok (.aload_n 0, 1) := by decide +kernel
theorem dX8_setBreak_278 : decode cX8_setBreak 278 = .ok (.getfield 7, 3) := by decide +kernel
theorem dX8_setBreak_281 : decode cX8_setBreak 281 = .ok (.bipush 26, 2) := by decide +kernel
theorem dX8_setBreak_283 : decode cX8_setBreak 283 = .ok (.iaload, 1) := by decide +kernel
theorem dX8_setBreak_284 : decode cX8_setBreak 284 = .ok (.ireturn, 1) := by decide +kernel
theorem dX8_removeBreak_0 : decode cX8_removeBreak 0 = .ok (.iload_n 1, 1) := by decide +kernel
theorem dX8_removeBreak_1 : decode cX8_removeBreak 1 = .ok (.iconst 0, 1) := by decide +kernel
theorem dX8_removeBreak_2 : decode cX8_removeBreak 2 = .ok (.aload_n 0, 1) := by decide +kernel
theorem dX8_removeBreak_3 : decode cX8_removeBreak 3 = .ok (.getfield 7, 3) := by decide +kernel
theorem dX8_removeBreak_6 : decode cX8_removeBreak 6 = .ok (.bipush 26, 2) := by decide +kernel
theorem dX8_removeBreak_8 : decode cX8_removeBreak 8 = .ok (.iaload, 1) := by decide +kernel
theorem dX8_removeBreak_9 : decode cX8_removeBreak 9 = .ok (.iconst 1, 1) := by decide +kernel
theorem dX8_removeBreak_10 : decode cX8_removeBreak 10 = .ok (.isub, 1) := by decide +kernel
theorem dX8_removeBreak_11 : decode cX8_removeBreak 11 = .ok (.invokestatic 56, 3) := by decide +kernel
theorem dX8_removeBreak_14 : decode cX8_removeBreak 14 = .ok (.ifCond .ne 6, 3) := by decide +kernel
theorem dX8_removeBreak_17 : decode cX8_removeBreak 17 = .ok (.ldc 64, 2) := by decide +kernel
theorem dX8_removeBreak_19 : decode cX8_removeBreak 19 = .ok (.ireturn, 1) := by decide +kernel
theorem dX8_removeBreak_20 : decode cX8_removeBreak 20 = .ok (.aload_n 0, 1) := by decide +kernel
theorem dX8_removeBreak_21 : decode cX8_removeBreak 21 = .ok (.getfield 7, 3) := by decide +kernel
theorem dX8_removeBreak_24 : decode cX8_removeBreak 24 = .ok (.bipush 26, 2) := by decide +kernel
theorem dX8_removeBreak_26 : decode cX8_removeBreak 26 = .ok (.iaload, 1) := by decide +kernel
theorem dX8_removeBreak_27 : decode cX8_removeBreak 27 = .ok (.iconst 2, 1) := by decide +kernel
theorem dX8_removeBreak_28 : decode cX8_removeBreak 28 = .ok (.if_icmp .ne 6, 3) := by decide +kernel
theorem dX8_removeBreak_31 : decode cX8_removeBreak 31 = .ok (.ldc 69, 2) := by decide +kernel
theorem dX8_removeBreak_33 : decode cX8_removeBreak 33 = .ok (.ireturn, 1) := by decide +kernel
theorem dX8_removeBreak_34 : decode cX8_removeBreak 34 = .ok (.aload_n 0, 1) := by decide +kernel
theorem dX8_removeBreak_35 : decode cX8_removeBreak 35 = .ok (.invokevirtual 70, 3) := by decide +kernel
theorem dX8_removeBreak_38 : decode cX8_removeBreak 38 = .ok (.aload_n 0, 1) := by decide +kernel
theorem dX8_removeBreak_39 : decode cX8_removeBreak 39 = .ok (.getfield 7, 3) := by decide +kernel
theorem dX8_removeBreak_42 : decode cX8_removeBreak 42 = .ok (.bipush 26, 2) := by decide +kernel
theorem dX8_removeBreak_44 : decode cX8_removeBreak 44 = .ok (.dup2, 1) := by decide +kernel
theorem dX8_removeBreak_45 : decode cX8_removeBreak 45 = .ok (.iaload, 1) := by decide +kernel
theorem dX8_removeBreak_46 : decode cX8_removeBreak 46 = .ok (.iconst 1, 1) := by decide +kernel
theorem dX8_removeBreak_47 : decode cX8_removeBreak 47 = .ok (.isub, 1) := by decide +kernel
theorem dX8_removeBreak_48 : decode cX8_removeBreak 48 = .ok (.iastore, 1) := by decide +kernel
theorem dX8_removeBreak_49 : decode cX8_removeBreak 49 = .ok (.iload_n 1, 1) := by decide +kernel
theorem dX8_removeBreak_50 : decode cX8_removeBreak 50 = .ok (.istore_n 2, 1) := by decide +kernel
theorem dX8_removeBreak_51 : decode cX8_removeBreak 51 = .ok (.iload_n 2, 1) := by decide +kernel
theorem dX8_removeBreak_52 : decode cX8_removeBreak 52 = .ok (.aload_n 0, 1) := by decide +kernel
theorem dX8_removeBreak_53 : decode cX8_removeBreak 53 = .ok (.getfield 7, 3) := by decide +kernel
theorem dX8_removeBreak_56 : decode cX8_removeBreak 56 = .ok (.bipush 26, 2) := by decide +kernel
theorem dX8_removeBreak_58 : decode cX8_removeBreak 58 = .ok (.iaload, 1) := by decide +kernel
theorem dX8_removeBreak_59 : decode cX8_removeBreak 59 = .ok (.if_icmp .ge 49, 3) := by decide +kernel
theorem dX8_removeBreak_62 : decode cX8_removeBreak 62 = .ok (.aload_n 0, 1) := by decide +kernel
theorem dX8_removeBreak_63 : decode cX8_removeBreak 63 = .ok (.getfield 7, 3) := by decide +kernel
theorem dX8_removeBreak_66 : decode cX8_removeBreak 66 = .ok (.bipush 27, 2) := by decide +kernel
theorem dX8_removeBreak_68 : decode cX8_removeBreak 68 = .ok (.iload_n 2, 1) := by decide +kernel
theorem dX8_removeBreak_69 : decode cX8_removeBreak 69 = .ok (.iadd, 1) := by decide +kernel
theorem dX8_removeBreak_70 : decode cX8_removeBreak 70 = .ok (.aload_n 0, 1) := by decide +kernel
theorem dX8_removeBreak_71 : decode cX8_removeBreak 71 = .ok (.getfield 7, 3) := by decide +kernel
theorem dX8_removeBreak_74 : decode cX8_removeBreak 74 = .ok (.bipush 27, 2) := by decide +kernel
theorem dX8_removeBreak_76 : decode cX8_removeBreak 76 = .ok (.iload_n 2, 1) := by decide +kernel
theorem dX8_removeBreak_77 : decode cX8_removeBreak 77 = .ok (.iadd, 1) := by decide +kernel
theorem dX8_removeBreak_78 : decode cX8_removeBreak 78 = .ok (.iconst 1, 1) := by decide +kernel
theorem dX8_removeBreak_79 : decode cX8_removeBreak 79 = .ok (.iadd, 1) := by decide +kernel
theorem dX8_removeBreak_80 : decode cX8_removeBreak 80 = .ok (.iaload, 1) := by decide +kernel
theorem dX8_removeBreak_81 : decode cX8_removeBreak 81 = .ok (.iastore, 1) := by decide +kernel
theorem dX8_removeBreak_82 : decode cX8_removeBreak 82 = .ok (.aload_n 0, 1) := by decide +kernel
theorem dX8_removeBreak_83 : decode cX8_removeBreak 83 = .ok (.getfield 7, 3) := by decide +kernel
theorem dX8_removeBreak_86 : decode cX8_removeBreak 86 = .ok (.bipush 34, 2) := by decide +kernel
theorem dX8_removeBreak_88 : decode cX8_removeBreak 88 = .ok (.iload_n 2, 1) := by decide +kernel
theorem dX8_removeBreak_89 : decode cX8_removeBreak 89 = .ok (.iadd, 1) := by decide +kernel
theorem dX8_removeBreak_90 : decode cX8_removeBreak 90 = .ok (.aload_n 0, 1) := by decide +kernel
theorem dX8_removeBreak_91 : decode cX8_removeBreak 91 = .ok (.getfield 7, 3) := by decide +kernel
theorem dX8_removeBreak_94 : decode cX8_removeBreak 94 = .ok (.bipush 34, 2) := by decide +kernel
theorem dX8_removeBreak_96 : decode cX8_removeBreak 96 = .ok (.iload_n 2, 1) := by decide +kernel
theorem dX8_removeBreak_97 : decode cX8_removeBreak 97 = .ok (.iadd, 1) := by decide +kernel
theorem dX8_removeBreak_98 : decode cX8_removeBreak 98 = .ok (.iconst 1, 1) := by decide +kernel
theorem dX8_removeBreak_99 : decode cX8_removeBreak 99 = .ok (.iadd, 1) := by decide +kernel
theorem dX8_removeBreak_100 : decode cX8_removeBreak 100 = .ok (.iaload, 1) := by decide +kernel
theorem dX8_removeBreak_101 : decode cX8_removeBreak 101 = .ok (.iastore, 1) := by decide +kernel
theorem dX8_removeBreak_102 : decode cX8_removeBreak 102 = .ok (.iinc 2 1, 3) := by decide +kernel
theorem dX8_removeBreak_105 : decode cX8_removeBreak 105 = .ok (.goto (-54), 3) := by decide +kernel
theorem dX8_removeBreak_108 : decode cX8_removeBreak 108 = .ok (.aload_n 0, 1) := by decide +kernel
theorem dX8_removeBreak_109 : decode cX8_removeBreak 109 = .ok (.getfield 7, 3) := by decide +kernel
theorem dX8_removeBreak_112 : decode cX8_removeBreak 112 = .ok (.bipush 26, 2) := by decide +kernel
theorem dX8_removeBreak_114 : decode cX8_removeBreak 114 = .ok (.iaload, 1) := by decide +kernel
theorem dX8_removeBreak_115 : decode cX8_removeBreak 115 = .ok (.ireturn, 1) := by decide +kernel
theorem dX8_entry_0 : decode cX8_entry 0 = .ok (.iload_n 1, 1) := by decide +kernel
theorem dX8_entry_1 : decode cX8_entry 1 = .ok (.iconst 0, 1) := by decide +kernel
theorem dX8_entry_2 : decode cX8_entry 2 = .ok (.iconst 3, 1) := by decide +kernel
theorem dX8_entry_3 : decode cX8_entry 3 = .ok (.invokestatic 56, 3) := by decide +kernel
theorem dX8_entry_6 : decode cX8_entry 6 = .ok (.ifCond .eq 7, 3) := by decide +kernel
theorem dX8_entry_9 : decode cX8_entry 9 = .ok (.iload_n 2, 1) := by decide +kernel
theorem dX8_entry_10 : decode cX8_entry 10 = .ok (.ifCond .ge 6, 3) := by decide +kernel
theorem dX8_entry_13 : decode cX8_entry 13 = .ok (.ldc 64, 2) := by decide +kernel
theorem dX8_entry_15 : decode cX8_entry 15 = .ok (.ireturn, 1) := by decide +kernel
theorem dX8_entry_16 : decode cX8_entry 16 = .ok (.iload_n 2, 1) := by decide +kernel
theorem dX8_entry_17 : decode cX8_entry 17 = .ok (.aload_n 0, 1) := by decide +kernel
theorem dX8_entry_18 : decode cX8_entry 18 = .ok (.getfield 7, 3) := by decide +kernel
theorem dX8_entry_21 : decode cX8_entry 21 = .ok (.iload_n 1, 1) := by decide +kernel
theorem dX8_entry_22 : decode cX8_entry 22 = .ok (.iconst 2, 1) := by decide +kernel
theorem dX8_entry_23 : decode cX8_entry 23 = .ok (.if_icmp .ge 8, 3) := by decide +kernel
theorem dX8_entry_26 : decode cX8_entry 26 = .ok (.bipush 9, 2) := by decide +kernel
theorem dX8_entry_28 : decode cX8_entry 28 = .ok (.goto 5, 3) := by decide +kernel
theorem dX8_entry_31 : decode cX8_entry 31 = .ok (.bipush 26, 2) := by decide +kernel
theorem dX8_entry_33 : decode cX8_entry 33 = .ok (.iaload, 1) := by decide +kernel
theorem dX8_entry_34 : decode cX8_entry 34 = .ok (.if_icmp .lt 6, 3) := by decide +kernel
theorem dX8_entry_37 : decode cX8_entry 37 = .ok (.ldc 96, 2) := by decide +kernel
theorem dX8_entry_39 : decode cX8_entry 39 = .ok (.ireturn, 1) := by decide +kernel
theorem dX8_entry_40 : decode cX8_entry 40 = .ok (.aload_n 0, 1) := by decide +kernel
theorem dX8_entry_41 : decode cX8_entry 41 = .ok (.getfield 7, 3) := by decide +kernel
theorem dX8_entry_44 : decode cX8_entry 44 = .ok (.iload_n 1, 1) := by decide +kernel
theorem dX8_entry_45 : decode cX8_entry 45 = .ok (.ifCond .ne 8, 3) := by decide +kernel
theorem dX8_entry_48 : decode cX8_entry 48 = .ok (.bipush 10, 2) := by decide +kernel
theorem dX8_entry_50 : decode cX8_entry 50 = .ok (.goto 25, 3) := by decide +kernel
theorem dX8_entry_53 : decode cX8_entry 53 = .ok (.iload_n 1, 1) := by decide +kernel
theorem dX8_entry_54 : decode cX8_entry 54 = .ok (.iconst 1, 1) := by decide +kernel
theorem dX8_entry_55 : decode cX8_entry 55 = .ok (.if_icmp .ne 8, 3) := by decide +kernel
theorem dX8_entry_58 : decode cX8_entry 58 = .ok (.bipush 18, 2) := by decide +kernel
theorem dX8_entry_60 : decode cX8_entry 60 = .ok (.goto 15, 3) := by decide +kernel
theorem dX8_entry_63 : decode cX8_entry 63 = .ok (.iload_n 1, 1) := by decide +kernel
theorem dX8_entry_64 : decode cX8_entry 64 = .ok (.iconst 2, 1) := by decide +kernel
theorem dX8_entry_65 : decode cX8_entry 65 = .ok (.if_icmp .ne 8, 3) := by decide +kernel
theorem dX8_entry_68 : decode cX8_entry 68 = .ok (.bipush 27, 2) := by decide +kernel
theorem dX8_entry_70 : decode cX8_entry 70 = .ok (.goto 5, 3) := by decide +kernel
theorem dX8_entry_73 : decode cX8_entry 73 = .ok (.bipush 34, 2) := by decide +kernel
theorem dX8_entry_75 : decode cX8_entry 75 = .ok (.iload_n 2, 1) := by decide +kernel
theorem dX8_entry_76 : decode cX8_entry 76 = .ok (.iadd, 1) := by decide +kernel
theorem dX8_entry_77 : decode cX8_entry 77 = .ok (.iaload, 1) := by decide +kernel
theorem dX8_entry_78 : decode cX8_entry 78 = .ok (.ireturn, 1) := by decide +kernel
theorem dX8_readingAt_0 : decode cX8_readingAt 0 = .ok (.iload_n 1, 1) := by decide +kernel
theorem dX8_readingAt_1 : decode cX8_readingAt 1 = .ok (.sipush (-1000), 3) := by decide +kernel
theorem dX8_readingAt_4 : decode cX8_readingAt 4 = .ok (.sipush 30000, 3) := by decide +kernel
theorem dX8_readingAt_7 : decode cX8_readingAt 7 = .ok (.invokestatic 56, 3) := by decide +kernel
theorem dX8_readingAt_10 : decode cX8_readingAt 10 = .ok (.ifCond .eq 11, 3) := by decide +kernel
theorem dX8_readingAt_13 : decode cX8_readingAt 13 = .ok (.aload_n 0, 1) := by decide +kernel
theorem dX8_readingAt_14 : decode cX8_readingAt 14 = .ok (.iload_n 1, 1) := by decide +kernel
theorem dX8_readingAt_15 : decode cX8_readingAt 15 = .ok (.invokevirtual 52, 3) := by decide +kernel
theorem dX8_readingAt_18 : decode cX8_readingAt 18 = .ok (.goto 5, 3) := by decide +kernel
theorem dX8_readingAt_21 : decode cX8_readingAt 21 = .ok (.ldc 64, 2) := by decide +kernel
theorem dX8_readingAt_23 : decode cX8_readingAt 23 = .ok (.ireturn, 1) := by decide +kernel
theorem dX8_slopeBits_0 : decode cX8_slopeBits 0 = .ok (.iload_n 1, 1) := by decide +kernel
theorem dX8_slopeBits_1 : decode cX8_slopeBits 1 = .ok (.ifCond .ge 6, 3) := by decide +kernel
theorem dX8_slopeBits_4 : decode cX8_slopeBits 4 = .ok (.ldc 64, 2) := by decide +kernel
theorem dX8_slopeBits_6 : decode cX8_slopeBits 6 = .ok (.ireturn, 1) := by decide +kernel
theorem dX8_slopeBits_7 : decode cX8_slopeBits 7 = .ok (.iload_n 1, 1) := by decide +kernel
theorem dX8_slopeBits_8 : decode cX8_slopeBits 8 = .ok (.aload_n 0, 1) := by decide +kernel
theorem dX8_slopeBits_9 : decode cX8_slopeBits 9 = .ok (.getfield 7, 3) := by decide +kernel
theorem dX8_slopeBits_12 : decode cX8_slopeBits 12 = .ok (.bipush 26, 2) := by decide +kernel
theorem dX8_slopeBits_14 : decode cX8_slopeBits 14 = .ok (.iaload, 1) := by decide +kernel
theorem dX8_slopeBits_15 : decode cX8_slopeBits 15 = .ok (.iconst 1, 1) := by decide +kernel
theorem dX8_slopeBits_16 : decode cX8_slopeBits 16 = .ok (.isub, 1) := by decide +kernel
theorem dX8_slopeBits_17 : decode cX8_slopeBits 17 = .ok (.if_icmp .lt 6, 3) := by decide +kernel
theorem dX8_slopeBits_20 : decode cX8_slopeBits 20 = .ok (.ldc 96, 2) := by decide +kernel
theorem dX8_slopeBits_22 : decode cX8_slopeBits 22 = .ok (.ireturn, 1) := by decide +kernel
theorem dX8_slopeBits_23 : decode cX8_slopeBits 23 = .ok (.aload_n 0, 1) := by decide +kernel
theorem dX8_slopeBits_24 : decode cX8_slopeBits 24 = .ok (.getfield 7, 3) := by decide +kernel
theorem dX8_slopeBits_27 : decode cX8_slopeBits 27 = .ok (.bipush 34, 2) := by decide +kernel
theorem dX8_slopeBits_29 : decode cX8_slopeBits 29 = .ok (.iload_n 1, 1) := by decide +kernel
theorem dX8_slopeBits_30 : decode cX8_slopeBits 30 = .ok (.iadd, 1) := by decide +kernel
theorem dX8_slopeBits_31 : decode cX8_slopeBits 31 = .ok (.iconst 1, 1) := by decide +kernel
theorem dX8_slopeBits_32 : decode cX8_slopeBits 32 = .ok (.iadd, 1) := by decide +kernel
theorem dX8_slopeBits_33 : decode cX8_slopeBits 33 = .ok (.iaload, 1) := by decide +kernel
theorem dX8_slopeBits_34 : decode cX8_slopeBits 34 = .ok (.aload_n 0, 1) := by decide +kernel
theorem dX8_slopeBits_35 : decode cX8_slopeBits 35 = .ok (.getfield 7, 3) := by decide +kernel
theorem dX8_slopeBits_38 : decode cX8_slopeBits 38 = .ok (.bipush 34, 2) := by decide +kernel
theorem dX8_slopeBits_40 : decode cX8_slopeBits 40 = .ok (.iload_n 1, 1) := by decide +kernel
theorem dX8_slopeBits_41 : decode cX8_slopeBits 41 = .ok (.iadd, 1) := by decide +kernel
theorem dX8_slopeBits_42 : decode cX8_slopeBits 42 = .ok (.iaload, 1) := by decide +kernel
theorem dX8_slopeBits_43 : decode cX8_slopeBits 43 = .ok (.isub, 1) := by decide +kernel
theorem dX8_slopeBits_44 : decode cX8_slopeBits 44 = .ok (.istore_n 2, 1) := by decide +kernel
theorem dX8_slopeBits_45 : decode cX8_slopeBits 45 = .ok (.aload_n 0, 1) := by decide +kernel
theorem dX8_slopeBits_46 : decode cX8_slopeBits 46 = .ok (.getfield 7, 3) := by decide +kernel
theorem dX8_slopeBits_49 : decode cX8_slopeBits 49 = .ok (.bipush 27, 2) := by decide +kernel
theorem dX8_slopeBits_51 : decode cX8_slopeBits 51 = .ok (.iload_n 1, 1) := by decide +kernel
theorem dX8_slopeBits_52 : decode cX8_slopeBits 52 = .ok (.iadd, 1) := by decide +kernel
theorem dX8_slopeBits_53 : decode cX8_slopeBits 53 = .ok (.iconst 1, 1) := by decide +kernel
theorem dX8_slopeBits_54 : decode cX8_slopeBits 54 = .ok (.iadd, 1) := by decide +kernel
theorem dX8_slopeBits_55 : decode cX8_slopeBits 55 = .ok (.iaload, 1) := by decide +kernel
theorem dX8_slopeBits_56 : decode cX8_slopeBits 56 = .ok (.aload_n 0, 1) := by decide +kernel
theorem dX8_slopeBits_57 : decode cX8_slopeBits 57 = .ok (.getfield 7, 3) := by decide +kernel
theorem dX8_slopeBits_60 : decode cX8_slopeBits 60 = .ok (.bipush 27, 2) := by decide +kernel
theorem dX8_slopeBits_62 : decode cX8_slopeBits 62 = .ok (.iload_n 1, 1) := by decide +kernel
theorem dX8_slopeBits_63 : decode cX8_slopeBits 63 = .ok (.iadd, 1) := by decide +kernel
theorem dX8_slopeBits_64 : decode cX8_slopeBits 64 = .ok (.iaload, 1) := by decide +kernel
theorem dX8_slopeBits_65 : decode cX8_slopeBits 65 = .ok (.isub, 1) := by decide +kernel
theorem dX8_slopeBits_66 : decode cX8_slopeBits 66 = .ok (.istore_n 3, 1) := by decide +kernel
theorem dX8_slopeBits_67 : decode cX8_slopeBits 67 = .ok (.iload_n 2, 1) := by decide +kernel
theorem dX8_slopeBits_68 : decode cX8_slopeBits 68 = .ok (.i2f, 1) := by decide +kernel
theorem dX8_slopeBits_69 : decode cX8_slopeBits 69 = .ok (.iload_n 3, 1) := by decide +kernel
theorem dX8_slopeBits_70 : decode cX8_slopeBits 70 = .ok (.i2f, 1) := by decide +kernel
theorem dX8_slopeBits_71 : decode cX8_slopeBits 71 = .ok (.fdiv, 1) := by decide +kernel
theorem dX8_slopeBits_72 : decode cX8_slopeBits 72 = .ok (.invokestatic 105, 3) := by decide +kernel
theorem dX8_slopeBits_75 : decode cX8_slopeBits 75 = .ok (.ireturn, 1) := by decide +kernel
theorem dX8_set_0 : decode cX8_set 0 = .ok (.iload_n 1, 1) := by decide +kernel
theorem dX8_set_1 : decode cX8_set 1 = .ok (.iconst 0, 1) := by decide +kernel
theorem dX8_set_2 : decode cX8_set 2 = .ok (.iconst 2, 1) := by decide +kernel
theorem dX8_set_3 : decode cX8_set 3 = .ok (.invokestatic 56, 3) := by decide +kernel
theorem dX8_set_6 : decode cX8_set 6 = .ok (.ifCond .eq 33, 3) := by decide +kernel
theorem dX8_set_9 : decode cX8_set 9 = .ok (.iload_n 2, 1) := by decide +kernel
theorem dX8_set_10 : decode cX8_set 10 = .ok (.iconst 0, 1) := by decide +kernel
theorem dX8_set_11 : decode cX8_set 11 = .ok (.iload_n 1, 1) := by decide +kernel
theorem dX8_set_12 : decode cX8_set 12 = .ok (.ifCond .ne 9, 3) := by decide +kernel
theorem dX8_set_15 : decode cX8_set 15 = .ok (.sipush 200, 3) := by decide +kernel
theorem dX8_set_18 : decode cX8_set 18 = .ok (.goto 15, 3) := by decide +kernel
theorem dX8_set_21 : decode cX8_set 21 = .ok (.iload_n 1, 1) := by decide +kernel
theorem dX8_set_22 : decode cX8_set 22 = .ok (.iconst 1, 1) := by decide +kernel
theorem dX8_set_23 : decode cX8_set 23 = .ok (.if_icmp .ne 8, 3) := by decide +kernel
theorem dX8_set_26 : decode cX8_set 26 = .ok (.bipush 100, 2) := by decide +kernel
theorem dX8_set_28 : decode cX8_set 28 = .ok (.goto 5, 3) := by decide +kernel
theorem dX8_set_31 : decode cX8_set 31 = .ok (.bipush 50, 2) := by decide +kernel
theorem dX8_set_33 : decode cX8_set 33 = .ok (.invokestatic 56, 3) := by decide +kernel
theorem dX8_set_36 : decode cX8_set 36 = .ok (.ifCond .ne 6, 3) := by decide +kernel
theorem dX8_set_39 : decode cX8_set 39 = .ok (.ldc 64, 2) := by decide +kernel
theorem dX8_set_41 : decode cX8_set 41 = .ok (.ireturn, 1) := by decide +kernel
theorem dX8_set_42 : decode cX8_set 42 = .ok (.aload_n 0, 1) := by decide +kernel
theorem dX8_set_43 : decode cX8_set 43 = .ok (.invokevirtual 70, 3) := by decide +kernel
theorem dX8_set_46 : decode cX8_set 46 = .ok (.aload_n 0, 1) := by decide +kernel
theorem dX8_set_47 : decode cX8_set 47 = .ok (.getfield 7, 3) := by decide +kernel
theorem dX8_set_50 : decode cX8_set 50 = .ok (.bipush 6, 2) := by decide +kernel
theorem dX8_set_52 : decode cX8_set 52 = .ok (.iload_n 1, 1) := by decide +kernel
theorem dX8_set_53 : decode cX8_set 53 = .ok (.iadd, 1) := by decide +kernel
theorem dX8_set_54 : decode cX8_set 54 = .ok (.iaload, 1) := by decide +kernel
theorem dX8_set_55 : decode cX8_set 55 = .ok (.istore_n 3, 1) := by decide +kernel
theorem dX8_set_56 : decode cX8_set 56 = .ok (.aload_n 0, 1) := by decide +kernel
theorem dX8_set_57 : decode cX8_set 57 = .ok (.getfield 7, 3) := by decide +kernel
theorem dX8_set_60 : decode cX8_set 60 = .ok (.bipush 6, 2) := by decide +kernel
theorem dX8_set_62 : decode cX8_set 62 = .ok (.iload_n 1, 1) := by decide +kernel
theorem dX8_set_63 : decode cX8_set 63 = .ok (.iadd, 1) := by decide +kernel
theorem dX8_set_64 : decode cX8_set 64 = .ok (.iload_n 2, 1) := by decide +kernel
theorem dX8_set_65 : decode cX8_set 65 = .ok (.iastore, 1) := by decide +kernel
theorem dX8_set_66 : decode cX8_set 66 = .ok (.iload_n 3, 1) := by decide +kernel
theorem dX8_set_67 : decode cX8_set 67 = .ok (.ireturn, 1) := by decide +kernel
theorem dX8_addWeight_0 : decode cX8_addWeight 0 = .ok (.iload_n 1, 1) := by decide +kernel
theorem dX8_addWeight_1 : decode cX8_addWeight 1 = .ok (.iconst 1, 1) := by decide +kernel
theorem dX8_addWeight_2 : decode cX8_addWeight 2 = .ok (.sipush 500, 3) := by decide +kernel
theorem dX8_addWeight_5 : decode cX8_addWeight 5 = .ok (.invokestatic 56, 3) := by decide +kernel
theorem dX8_addWeight_8 : decode cX8_addWeight 8 = .ok (.ifCond .eq 43, 3) := by decide +kernel
theorem dX8_addWeight_11 : decode cX8_addWeight 11 = .ok (.iload_n 2, 1) := by decide +kernel
theorem dX8_addWeight_12 : decode cX8_addWeight 12 = .ok (.bipush (-9), 2) := by decide +kernel
theorem dX8_addWeight_14 : decode cX8_addWeight 14 = .ok (.bipush 9, 2) := by decide +kernel
theorem dX8_addWeight_16 : decode cX8_addWeight 16 = .ok (.invokestatic 56, 3) := by decide +kernel
theorem dX8_addWeight_19 : decode cX8_addWeight 19 = .ok (.ifCond .eq 32, 3) := by decide +kernel
theorem dX8_addWeight_22 : decode cX8_addWeight 22 = .ok (.iload_n 3, 1) := by decide +kernel
theorem dX8_addWeight_23 : decode cX8_addWeight 23 = .ok (.iconst 0, 1) := by decide +kernel
theorem dX8_addWeight_24 : decode cX8_addWeight 24 = .ok (.sipush 1000, 3) := by decide +kernel
theorem dX8_addWeight_27 : decode cX8_addWeight 27 = .ok (.invokestatic 56, 3) := by decide +kernel
theorem dX8_addWeight_30 : decode cX8_addWeight 30 = .ok (.ifCond .eq 21, 3) := by decide +kernel
theorem dX8_addWeight_33 : decode cX8_addWeight 33 = .ok (.iload 4, 2) := by decide +kernel
theorem dX8_addWeight_35 : decode cX8_addWeight 35 = .ok (.iconst (-1), 1) := by decide +kernel
theorem dX8_addWeight_36 : decode cX8_addWeight 36 = .ok (.aload_n 0, 1) := by decide +kernel
theorem dX8_addWeight_37 : decode cX8_addWeight 37 = .ok (.getfield 7, 3) := by decide +kernel
theorem dX8_addWeight_40 : decode cX8_addWeight 40 = .ok (.bipush 41, 2) := by decide +kernel
theorem dX8_addWeight_42 : decode cX8_addWeight 42 = .ok (.iaload, 1) := by decide +kernel
theorem dX8_addWeight_43 : decode cX8_addWeight 43 = .ok (.iconst 1, 1) := by decide +kernel
theorem dX8_addWeight_44 : decode cX8_addWeight 44 = .ok (.isub, 1) := by decide +kernel
theorem dX8_addWeight_45 : decode cX8_addWeight 45 = .ok (.invokestatic 56, 3) := by decide +kernel
theorem dX8_addWeight_48 : decode cX8_addWeight 48 = .ok (.ifCond .ne 6, 3) := by decide +kernel
theorem dX8_addWeight_51 : decode cX8_addWeight 51 = .ok (.ldc 64, 2) := by decide +kernel
theorem dX8_addWeight_53 : decode cX8_addWeight 53 = .ok (.ireturn, 1) := by decide +kernel
theorem dX8_addWeight_54 : decode cX8_addWeight 54 = .ok (.aload_n 0, 1) := by decide +kernel
theorem dX8_addWeight_55 : decode cX8_addWeight 55 = .ok (.getfield 7, 3) := by decide +kernel
theorem dX8_addWeight_58 : decode cX8_addWeight 58 = .ok (.bipush 41, 2) := by decide +kernel
theorem dX8_addWeight_60 : decode cX8_addWeight 60 = .ok (.iaload, 1) := by decide +kernel
theorem dX8_addWeight_61 : decode cX8_addWeight 61 = .ok (.istore 5, 2) := by decide +kernel
theorem dX8_addWeight_63 : decode cX8_addWeight 63 = .ok (.iload 5, 2) := by decide +kernel
theorem dX8_addWeight_65 : decode cX8_addWeight 65 = .ok (.bipush 8, 2) := by decide +kernel
theorem dX8_addWeight_67 : decode cX8_addWeight 67 = .ok (.if_icmp .ne 6, 3) := by decide +kernel
theorem dX8_addWeight_70 : decode cX8_addWeight 70 = .ok (.ldc 104, 2) := by decide +kernel
theorem dX8_addWeight_72 : decode cX8_addWeight 72 = .ok (.ireturn, 1) := by decide +kernel
theorem dX8_addWeight_73 : decode cX8_addWeight 73 = .ok (.aload_n 0, 1) := by decide +kernel
theorem dX8_addWeight_74 : decode cX8_addWeight 74 = .ok (.invokevirtual 70, 3) := by decide +kernel
theorem dX8_addWeight_77 : decode cX8_addWeight 77 = .ok (.aload_n 0, 1) := by decide +kernel
theorem dX8_addWeight_78 : decode cX8_addWeight 78 = .ok (.getfield 7, 3) := by decide +kernel
theorem dX8_addWeight_81 : decode cX8_addWeight 81 = .ok (.bipush 42, 2) := by decide +kernel
theorem dX8_addWeight_83 : decode cX8_addWeight 83 = .ok (.iload 5, 2) := by decide +kernel
theorem dX8_addWeight_85 : decode cX8_addWeight 85 = .ok (.iadd, 1) := by decide +kernel
theorem dX8_addWeight_86 : decode cX8_addWeight 86 = .ok (.iload_n 1, 1) := by decide +kernel
theorem dX8_addWeight_87 : decode cX8_addWeight 87 = .ok (.iastore, 1) := by decide +kernel
theorem dX8_addWeight_88 : decode cX8_addWeight 88 = .ok (.aload_n 0, 1) := by decide +kernel
theorem dX8_addWeight_89 : decode cX8_addWeight 89 = .ok (.getfield 7, 3) := by decide +kernel
theorem dX8_addWeight_92 : decode cX8_addWeight 92 = .ok (.bipush 50, 2) := by decide +kernel
theorem dX8_addWeight_94 : decode cX8_addWeight 94 = .ok (.iload 5, 2) := by decide +kernel
theorem dX8_addWeight_96 : decode cX8_addWeight 96 = .ok (.iadd, 1) := by decide +kernel
theorem dX8_addWeight_97 : decode cX8_addWeight 97 = .ok (.iload_n 2, 1) := by decide +kernel
theorem dX8_addWeight_98 : decode cX8_addWeight 98 = .ok (.iastore, 1) := by decide +kernel
theorem dX8_addWeight_99 : decode cX8_addWeight 99 = .ok (.aload_n 0, 1) := by decide +kernel
theorem dX8_addWeight_100 : decode cX8_addWeight 100 = .ok (.getfield 7, 3) := by decide +kernel
theorem dX8_addWeight_103 : decode cX8_addWeight 103 = .ok (.bipush 58, 2) := by decide +kernel
theorem dX8_addWeight_105 : decode cX8_addWeight 105 = .ok (.iload 5, 2) := by decide +kernel
theorem dX8_addWeight_107 : decode cX8_addWeight 107 = .ok (.iadd, 1) := by decide +kernel
theorem dX8_addWeight_108 : decode cX8_addWeight 108 = .ok (.iload_n 3, 1) := by decide +kernel
theorem dX8_addWeight_109 : decode cX8_addWeight 109 = .ok (.iastore, 1) := by decide +kernel
theorem dX8_addWeight_110 : decode cX8_addWeight 110 = .ok (.aload_n 0, 1) := by decide +kernel
theorem dX8_addWeight_111 : decode cX8_addWeight 111 = .ok (.getfield 7, 3) := by decide +kernel
theorem dX8_addWeight_114 : decode cX8_addWeight 114 = .ok (.bipush 66, 2) := by decide +kernel
theorem dX8_addWeight_116 : decode cX8_addWeight 116 = .ok (.iload 5, 2) := by decide +kernel
theorem dX8_addWeight_118 : decode cX8_addWeight 118 = .ok (.iadd, 1) := by decide +kernel
theorem dX8_addWeight_119 : decode cX8_addWeight 119 = .ok (.iload 4, 2) := by decide +kernel
theorem dX8_addWeight_121 : decode cX8_addWeight 121 = .ok (.iastore, 1) := by decide +kernel
theorem dX8_addWeight_122 : decode cX8_addWeight 122 = .ok (.aload_n 0, 1) := by decide +kernel
theorem dX8_addWeight_123 : decode cX8_addWeight 123 = .ok (.getfield 7, 3) := by decide +kernel
theorem dX8_addWeight_126 : decode cX8_addWeight 126 = .ok (.bipush 74, 2) := by decide +kernel
theorem dX8_addWeight_128 : decode cX8_addWeight 128 = .ok (.iload 5, 2) := by decide +kernel
theorem dX8_addWeight_130 : decode cX8_addWeight 130 = .ok (.iadd, 1) := by decide +kernel
theorem dX8_addWeight_131 : decode cX8_addWeight 131 = .ok (.iconst 0, 1) := by decide +kernel
theorem dX8_addWeight_132 : decode cX8_addWeight 132 = .ok (.iastore, 1) := by decide +kernel
theorem dX8_addWeight_133 : decode cX8_addWeight 133 = .ok (.aload_n 0, 1) := by decide +kernel
theorem dX8_addWeight_134 : decode cX8_addWeight 134 = .ok (.getfield 7, 3) := by decide +kernel
theorem dX8_addWeight_137 : decode cX8_addWeight 137 = .ok (.bipush 41, 2) := by decide +kernel
theorem dX8_addWeight_139 : decode cX8_addWeight 139 = .ok (.dup2, 1) := by decide +kernel
theorem dX8_addWeight_140 : decode cX8_addWeight 140 = .ok (.iaload, 1) := by decide +kernel
theorem dX8_addWeight_141 : decode cX8_addWeight 141 = .ok (.iconst 1, 1) := by decide +kernel
theorem dX8_addWeight_142 : decode cX8_addWeight 142 = .ok (.iadd, 1) := by decide +kernel
theorem dX8_addWeight_143 : decode cX8_addWeight 143 = .ok (.iastore, 1) := by decide +kernel
theorem dX8_addWeight_144 : decode cX8_addWeight 144 = .ok (.iload 5, 2) := by decide +kernel
theorem dX8_addWeight_146 : decode cX8_addWeight 146 = .ok (.ireturn, 1) := by decide +kernel
theorem dX8_isWeight_0 : decode cX8_isWeight 0 = .ok (.iload_n 1, 1) := by decide +kernel
theorem dX8_isWeight_1 : decode cX8_isWeight 1 = .ok (.iconst 0, 1) := by decide +kernel
theorem dX8_isWeight_2 : decode cX8_isWeight 2 = .ok (.aload_n 0, 1) := by decide +kernel
theorem dX8_isWeight_3 : decode cX8_isWeight 3 = .ok (.getfield 7, 3) := by decide +kernel
theorem dX8_isWeight_6 : decode cX8_isWeight 6 = .ok (.bipush 41, 2) := by decide +kernel
theorem dX8_isWeight_8 : decode cX8_isWeight 8 = .ok (.iaload, 1) := by decide +kernel
theorem dX8_isWeight_9 : decode cX8_isWeight 9 = .ok (.iconst 1, 1) := by decide +kernel
theorem dX8_isWeight_10 : decode cX8_isWeight 10 = .ok (.isub, 1) := by decide +kernel
theorem dX8_isWeight_11 : decode cX8_isWeight 11 = .ok (.invokestatic 56, 3) := by decide +kernel
theorem dX8_isWeight_14 : decode cX8_isWeight 14 = .ok (.ireturn, 1) := by decide +kernel
theorem dX8_removeWeight_0 : decode cX8_removeWeight 0 = .ok (.aload_n 0, 1) := by decide +kernel
theorem dX8_removeWeight_1 : decode cX8_removeWeight 1 = .ok (.iload_n 1, 1) := by decide +kernel
theorem dX8_removeWeight_2 : decode cX8_removeWeight 2 = .ok (.invokevirtual 111, 3) := by decide +kernel
theorem dX8_removeWeight_5 : decode cX8_removeWeight 5 = .ok (.ifCond .ne 6, 3) := by decide +kernel
theorem dX8_removeWeight_8 : decode cX8_removeWeight 8 = .ok (.ldc 64, 2) := by decide +kernel
theorem dX8_removeWeight_10 : decode cX8_removeWeight 10 = .ok (.ireturn, 1) := by decide +kernel
theorem dX8_removeWeight_11 : decode cX8_removeWeight 11 = .ok (.aload_n 0, 1) := by decide +kernel
theorem dX8_removeWeight_12 : decode cX8_removeWeight 12 = .ok (.getfield 7, 3) := by decide +kernel
theorem dX8_removeWeight_15 : decode cX8_removeWeight 15 = .ok (.bipush 74, 2) := by decide +kernel
theorem dX8_removeWeight_17 : decode cX8_removeWeight 17 = .ok (.iload_n 1, 1) := by decide +kernel
theorem dX8_removeWeight_18 : decode cX8_removeWeight 18 = .ok (.iadd, 1) := by decide +kernel
theorem dX8_removeWeight_19 : decode cX8_removeWeight 19 = .ok (.iaload, 1) := by decide +kernel
theorem dX8_removeWeight_20 : decode cX8_removeWeight 20 = .ok (.ifCond .ne 7, 3) := by decide +kernel
theorem dX8_removeWeight_23 : decode cX8_removeWeight 23 = .ok (.iconst 1, 1) := by decide +kernel
theorem dX8_removeWeight_24 : decode cX8_removeWeight 24 = .ok (.goto 4, 3) := by decide +kernel
theorem dX8_removeWeight_27 : decode cX8_removeWeight 27 = .ok (.iconst 0, 1) := by decide +kernel
theorem dX8_removeWeight_28 : decode cX8_removeWeight 28 = .ok (.istore_n 2, 1) := by decide +kernel
theorem dX8_removeWeight_29 : decode cX8_removeWeight 29 = .ok (.iconst 0, 1) := by decide +kernel
theorem dX8_removeWeight_30 : decode cX8_removeWeight 30 = .ok (.istore_n 3, 1) := by decide +kernel
theorem dX8_removeWeight_31 : decode cX8_removeWeight 31 = .ok (.iload_n 3, 1) := by decide +kernel
theorem dX8_removeWeight_32 : decode cX8_removeWeight 32 = .ok (.aload_n 0, 1) := by decide +kernel
theorem dX8_removeWeight_33 : decode cX8_removeWeight 33 = .ok (.getfield 7, 3) := by decide +kernel
theorem dX8_removeWeight_36 : decode cX8_removeWeight 36 = .ok (.bipush 41, 2) := by decide +kernel
theorem dX8_removeWeight_38 : decode cX8_removeWeight 38 = .ok (.iaload, 1) := by decide +kernel
theorem dX8_removeWeight_39 : decode cX8_removeWeight 39 = .ok (.if_icmp .ge 32, 3) := by decide +kernel
theorem dX8_removeWeight_42 : decode cX8_removeWeight 42 = .ok (.iload_n 2, 1) := by decide +kernel
theorem dX8_removeWeight_43 : decode cX8_removeWeight 43 = .ok (.ifCond .eq 20, 3) := by decide +kernel
theorem dX8_removeWeight_46 : decode cX8_removeWeight 46 = .ok (.aload_n 0, 1) := by decide +kernel
theorem dX8_removeWeight_47 : decode cX8_removeWeight 47 = .ok (.getfield 7, 3) := by decide +kernel
theorem dX8_removeWeight_50 : decode cX8_removeWeight 50 = .ok (.bipush 66, 2) := by decide +kernel
theorem dX8_removeWeight_52 : decode cX8_removeWeight 52 = .ok (.iload_n 3, 1) := by decide +kernel
theorem dX8_removeWeight_53 : decode cX8_removeWeight 53 = .ok (.iadd, 1) := by decide +kernel
theorem dX8_removeWeight_54 : decode cX8_removeWeight 54 = .ok (.iaload, 1) := by decide +kernel
theorem dX8_removeWeight_55 : decode cX8_removeWeight 55 = .ok (.iload_n 1, 1) := by decide +kernel
theorem dX8_removeWeight_56 : decode cX8_removeWeight 56 = .ok (.if_icmp .eq 7, 3) := by decide +kernel
theorem dX8_removeWeight_59 : decode cX8_removeWeight 59 = .ok (.iconst 1, 1) := by decide +kernel
theorem dX8_removeWeight_60 : decode cX8_removeWeight 60 = .ok (.goto 4, 3) := by decide +kernel
theorem dX8_removeWeight_63 : decode cX8_removeWeight 63 = .ok (.iconst 0, 1) := by decide +kernel
theorem dX8_removeWeight_64 : decode cX8_removeWeight 64 = .ok (.istore_n 2, 1) := by decide +kernel
theorem dX8_removeWeight_65 : decode cX8_removeWeight 65 = .ok (.iinc 3 1, 3) := by decide +kernel
theorem dX8_removeWeight_68 : decode cX8_removeWeight 68 = .ok (.goto (-37), 3) := by decide +kernel
theorem dX8_removeWeight_71 : decode cX8_removeWeight 71 = .ok (.iload_n 2, 1) := by decide +kernel
theorem dX8_removeWeight_72 : decode cX8_removeWeight 72 = .ok (.ifCond .ne 6, 3) := by decide +kernel
theorem dX8_removeWeight_75 : decode cX8_removeWeight 75 = .ok (.ldc 69, 2) := by decide +kernel
theorem dX8_removeWeight_77 : decode cX8_removeWeight 77 = .ok (.ireturn, 1) := by decide +kernel
theorem dX8_removeWeight_78 : decode cX8_removeWeight 78 = .ok (.aload_n 0, 1) := by decide +kernel
theorem dX8_removeWeight_79 : decode cX8_removeWeight 79 = .ok (.invokevirtual 70, 3) := by decide +kernel
theorem dX8_removeWeight_82 : decode cX8_removeWeight 82 = .ok (.aload_n 0, 1) := by decide +kernel
theorem dX8_removeWeight_83 : decode cX8_removeWeight 83 = .ok (.getfield 7, 3) := by decide +kernel
theorem dX8_removeWeight_86 : decode cX8_removeWeight 86 = .ok (.bipush 41, 2) := by decide +kernel
theorem dX8_removeWeight_88 : decode cX8_removeWeight 88 = .ok (.dup2, 1) := by decide +kernel
theorem dX8_removeWeight_89 : decode cX8_removeWeight 89 = .ok (.iaload, 1) := by decide +kernel
theorem dX8_removeWeight_90 : decode cX8_removeWeight 90 = .ok (.iconst 1, 1) := by decide +kernel
theorem dX8_removeWeight_91 : decode cX8_removeWeight 91 = .ok (.isub, 1) := by decide +kernel
theorem dX8_removeWeight_92 : decode cX8_removeWeight 92 = .ok (.iastore, 1) := by decide +kernel
theorem dX8_removeWeight_93 : decode cX8_removeWeight 93 = .ok (.iload_n 1, 1) := by decide +kernel
theorem dX8_removeWeight_94 : decode cX8_removeWeight 94 = .ok (.istore_n 3, 1) := by decide +kernel
theorem dX8_removeWeight_95 : decode cX8_removeWeight 95 = .ok (.iload_n 3, 1) := by decide +kernel
theorem dX8_removeWeight_96 : decode cX8_removeWeight 96 = .ok (.aload_n 0, 1) := by decide +kernel
theorem dX8_removeWeight_97 : decode cX8_removeWeight 97 = .ok (.getfield 7, 3) := by decide +kernel
theorem dX8_removeWeight_100 : decode cX8_removeWeight 100 = .ok (.bipush 41, 2) := by decide +kernel
theorem dX8_removeWeight_102 : decode cX8_removeWeight 102 = .ok (.iaload, 1) := by decide +kernel
theorem dX8_removeWeight_103 : decode cX8_removeWeight 103 = .ok (.if_icmp .ge 46, 3) := by decide +kernel
theorem dX8_removeWeight_106 : decode cX8_removeWeight 106 = .ok (.bipush 42, 2) := by decide +kernel
theorem dX8_removeWeight_108 : decode cX8_removeWeight 108 = .ok (.istore 4, 2) := by decide +kernel
theorem dX8_removeWeight_110 : decode cX8_removeWeight 110 = .ok (.iload 4, 2) := by decide +kernel
theorem dX8_removeWeight_112 : decode cX8_removeWeight 112 = .ok (.bipush 74, 2) := by decide +kernel
theorem dX8_removeWeight_114 : decode cX8_removeWeight 114 = .ok (.if_icmp .gt 29, 3) := by decide +kernel
theorem dX8_removeWeight_117 : decode cX8_removeWeight 117 = .ok (.aload_n 0, 1) := by decide +kernel
theorem dX8_removeWeight_118 : decode cX8_removeWeight 118 = .ok (.getfield 7, 3) := by decide +kernel
theorem dX8_removeWeight_121 : decode cX8_removeWeight 121 = .ok (.iload 4, 2) := by decide +kernel
theorem dX8_removeWeight_123 : decode cX8_removeWeight 123 = .ok (.iload_n 3, 1) := by decide +kernel
theorem dX8_removeWeight_124 : decode cX8_removeWeight 124 = .ok (.iadd, 1) := by decide +kernel
theorem dX8_removeWeight_125 : decode cX8_removeWeight 125 = .ok (.aload_n 0, 1) := by decide +kernel
theorem dX8_removeWeight_126 : decode cX8_removeWeight 126 = .ok (.getfield 7, 3) := by decide +kernel
theorem dX8_removeWeight_129 : decode cX8_removeWeight 129 = .ok (.iload 4, 2) := by decide +kernel
theorem dX8_removeWeight_131 : decode cX8_removeWeight 131 = .ok (.iload_n 3, 1) := by decide +kernel
theorem dX8_removeWeight_132 : decode cX8_removeWeight 132 = .ok (.iadd, 1) := by decide +kernel
theorem dX8_removeWeight_133 : decode cX8_removeWeight 133 = .ok (.iconst 1, 1) := by decide +kernel
theorem dX8_removeWeight_134 : decode cX8_removeWeight 134 = .ok (.iadd, 1) := by decide +kernel
theorem dX8_removeWeight_135 : decode cX8_removeWeight 135 = .ok (.iaload, 1) := by decide +kernel
theorem dX8_removeWeight_136 : decode cX8_removeWeight 136 = .ok (.iastore, 1) := by decide +kernel
theorem dX8_removeWeight_137 : decode cX8_removeWeight 137 = .ok (.iinc 4 8, 3) := by decide +kernel
theorem dX8_removeWeight_140 : decode cX8_removeWeight 140 = .ok (.goto (-30), 3) := by decide +kernel
theorem dX8_removeWeight_143 : decode cX8_removeWeight 143 = .ok (.iinc 3 1, 3) := by decide +kernel
theorem dX8_removeWeight_146 : decode cX8_removeWeight 146 = .ok (.goto (-51), 3) := by decide +kernel
theorem dX8_removeWeight_149 : decode cX8_removeWeight 149 = .ok (.iconst 0, 1) := by decide +kernel
theorem dX8_removeWeight_150 : decode cX8_removeWeight 150 = .ok (.istore_n 3, 1) := by decide +kernel
theorem dX8_removeWeight_151 : decode cX8_removeWeight 151 = .ok (.iload_n 3, 1) := by decide +kernel
theorem dX8_removeWeight_152 : decode cX8_removeWeight 152 = .ok (.aload_n 0, 1) := by decide +kernel
theorem dX8_removeWeight_153 : decode cX8_removeWeight 153 = .ok (.getfield 7, 3) := by decide +kernel
theorem dX8_removeWeight_156 : decode cX8_removeWeight 156 = .ok (.bipush 41, 2) := by decide +kernel
theorem dX8_removeWeight_158 : decode cX8_removeWeight 158 = .ok (.iaload, 1) := by decide +kernel
theorem dX8_removeWeight_159 : decode cX8_removeWeight 159 = .ok (.if_icmp .ge 39, 3) := by decide +kernel
theorem dX8_removeWeight_162 : decode cX8_removeWeight 162 = .ok (.aload_n 0, 1) := by decide +kernel
theorem dX8_removeWeight_163 : decode cX8_removeWeight 163 = .ok (.getfield 7, 3) := by decide +kernel
theorem dX8_removeWeight_166 : decode cX8_removeWeight 166 = .ok (.bipush 66, 2) := by decide +kernel
theorem dX8_removeWeight_168 : decode cX8_removeWeight 168 = .ok (.iload_n 3, 1) := by decide +kernel
theorem dX8_removeWeight_169 : decode cX8_removeWeight 169 = .ok (.iadd, 1) := by decide +kernel
theorem dX8_removeWeight_170 : decode cX8_removeWeight 170 = .ok (.dup2, 1) := by decide +kernel
theorem dX8_removeWeight_171 : decode cX8_removeWeight 171 = .ok (.iaload, 1) := by decide +kernel
theorem dX8_removeWeight_172 : decode cX8_removeWeight 172 = .ok (.aload_n 0, 1) := by decide +kernel
theorem dX8_removeWeight_173 : decode cX8_removeWeight 173 = .ok (.getfield 7, 3) := by decide +kernel
theorem dX8_removeWeight_176 : decode cX8_removeWeight 176 = .ok (.bipush 66, 2) := by decide +kernel
theorem dX8_removeWeight_178 : decode cX8_removeWeight 178 = .ok (.iload_n 3, 1) := by decide +kernel
theorem dX8_removeWeight_179 : decode cX8_removeWeight 179 = .ok (.iadd, 1) := by decide +kernel
theorem dX8_removeWeight_180 : decode cX8_removeWeight 180 = .ok (.iaload, 1) := by decide +kernel
theorem dX8_removeWeight_181 : decode cX8_removeWeight 181 = .ok (.iload_n 1, 1) := by decide +kernel
theorem dX8_removeWeight_182 : decode cX8_removeWeight 182 = .ok (.if_icmp .le 7, 3) := by decide +kernel
theorem dX8_removeWeight_185 : decode cX8_removeWeight 185 = .ok (.iconst 1, 1) := by decide +kernel
theorem dX8_removeWeight_186 : decode cX8_removeWeight 186 = .ok (.goto 4, 3) := by decide +kernel
theorem dX8_removeWeight_189 : decode cX8_removeWeight 189 = .ok (.iconst 0, 1) := by decide +kernel
theorem dX8_removeWeight_190 : decode cX8_removeWeight 190 = .ok (.isub, 1) := by decide +kernel
theorem dX8_removeWeight_191 : decode cX8_removeWeight 191 = .ok (.iastore, 1) := by decide +kernel
theorem dX8_removeWeight_192 : decode cX8_removeWeight 192 = .ok (.iinc 3 1, 3) := by decide +kernel
theorem dX8_removeWeight_195 : decode cX8_removeWeight 195 = .ok (.goto (-44), 3) := by decide +kernel
theorem dX8_removeWeight_198 : decode cX8_removeWeight 198 = .ok (.aload_n 0, 1) := by decide +kernel
theorem dX8_removeWeight_199 : decode cX8_removeWeight 199 = .ok (.getfield 7, 3) := by decide +kernel
theorem dX8_removeWeight_202 : decode cX8_removeWeight 202 = .ok (.bipush 41, 2) := by decide +kernel
theorem dX8_removeWeight_204 : decode cX8_removeWeight 204 = .ok (.iaload, 1) := by decide +kernel
theorem dX8_removeWeight_205 : decode cX8_removeWeight 205 = .ok (.ireturn, 1) := by decide +kernel
theorem dX8_chained_0 : decode cX8_chained 0 = .ok (.iconst 0, 1) := by decide +kernel
theorem dX8_chained_1 : decode cX8_chained 1 = .ok (.istore_n 3, 1) := by decide +kernel
theorem dX8_chained_2 : decode cX8_chained 2 = .ok (.iload_n 1, 1) := by decide +kernel
theorem dX8_chained_3 : decode cX8_chained 3 = .ok (.istore 4, 2) := by decide +kernel
theorem dX8_chained_5 : decode cX8_chained 5 = .ok (.iload 4, 2) := by decide +kernel
theorem dX8_chained_7 : decode cX8_chained 7 = .ok (.ifCond .lt 38, 3) := by decide +kernel
theorem dX8_chained_10 : decode cX8_chained 10 = .ok (.iload_n 3, 1) := by decide +kernel
theorem dX8_chained_11 : decode cX8_chained 11 = .ok (.iload_n 2, 1) := by decide +kernel
theorem dX8_chained_12 : decode cX8_chained 12 = .ok (.ifCond .ge 7, 3) := by decide +kernel
theorem dX8_chained_15 : decode cX8_chained 15 = .ok (.iconst 1, 1) := by decide +kernel
theorem dX8_chained_16 : decode cX8_chained 16 = .ok (.goto 12, 3) := by decide +kernel
theorem dX8_chained_19 : decode cX8_chained 19 = .ok (.aload_n 0, 1) := by decide +kernel
theorem dX8_chained_20 : decode cX8_chained 20 = .ok (.getfield 7, 3) := by decide +kernel
theorem dX8_chained_23 : decode cX8_chained 23 = .ok (.iload_n 2, 1) := by decide +kernel
theorem dX8_chained_24 : decode cX8_chained 24 = .ok (.iload 4, 2) := by decide +kernel
theorem dX8_chained_26 : decode cX8_chained 26 = .ok (.iadd, 1) := by decide +kernel
theorem dX8_chained_27 : decode cX8_chained 27 = .ok (.iaload, 1) := by decide +kernel
theorem dX8_chained_28 : decode cX8_chained 28 = .ok (.iadd, 1) := by decide +kernel
theorem dX8_chained_29 : decode cX8_chained 29 = .ok (.istore_n 3, 1) := by decide +kernel
theorem dX8_chained_30 : decode cX8_chained 30 = .ok (.aload_n 0, 1) := by decide +kernel
theorem dX8_chained_31 : decode cX8_chained 31 = .ok (.getfield 7, 3) := by decide +kernel
theorem dX8_chained_34 : decode cX8_chained 34 = .ok (.bipush 66, 2) := by decide +kernel
theorem dX8_chained_36 : decode cX8_chained 36 = .ok (.iload 4, 2) := by decide +kernel
theorem dX8_chained_38 : decode cX8_chained 38 = .ok (.iadd, 1) := by decide +kernel
theorem dX8_chained_39 : decode cX8_chained 39 = .ok (.iaload, 1) := by decide +kernel
theorem dX8_chained_40 : decode cX8_chained 40 = .ok (.istore 4, 2) := by decide +kernel
theorem dX8_chained_42 : decode cX8_chained 42 = .ok (.goto (-37), 3) := by decide +kernel
theorem dX8_chained_45 : decode cX8_chained 45 = .ok (.iload_n 3, 1) := by decide +kernel
theorem dX8_chained_46 : decode cX8_chained 46 = .ok (.ireturn, 1) := by decide +kernel
theorem dX8_isTraced_0 : decode cX8_isTraced 0 = .ok (.iconst 0, 1) := by decide +kernel
theorem dX8_isTraced_1 : decode cX8_isTraced 1 = .ok (.istore_n 3, 1) := by decide +kernel
theorem dX8_isTraced_2 : decode cX8_isTraced 2 = .ok (.iload_n 1, 1) := by decide +kernel
theorem dX8_isTraced_3 : decode cX8_isTraced 3 = .ok (.istore 4, 2) := by decide +kernel
theorem dX8_isTraced_5 : decode cX8_isTraced 5 = .ok (.iload 4, 2) := by decide +kernel
theorem dX8_isTraced_7 : decode cX8_isTraced 7 = .ok (.ifCond .lt 34, 3) := by decide +kernel
theorem dX8_isTraced_10 : decode cX8_isTraced 10 = .ok (.iload_n 3, 1) := by decide +kernel
theorem dX8_isTraced_11 : decode cX8_isTraced 11 = .ok (.ifCond .ne 9, 3) := by decide +kernel
theorem dX8_isTraced_14 : decode cX8_isTraced 14 = .ok (.iload 4, 2) := by decide +kernel
theorem dX8_isTraced_16 : decode cX8_isTraced 16 = .ok (.iload_n 2, 1) := by decide +kernel
theorem dX8_isTraced_17 : decode cX8_isTraced 17 = .ok (.if_icmp .ne 7, 3) := by decide +kernel
theorem dX8_isTraced_20 : decode cX8_isTraced 20 = .ok (.iconst 1, 1) := by decide +kernel
theorem dX8_isTraced_21 : decode cX8_isTraced 21 = .ok (.goto 4, 3) := by decide +kernel
theorem dX8_isTraced_24 : decode cX8_isTraced 24 = .ok (.iconst 0, 1) := by decide +kernel
theorem dX8_isTraced_25 : decode cX8_isTraced 25 = .ok (.istore_n 3, 1) := by decide +kernel
theorem dX8_isTraced_26 : decode cX8_isTraced 26 = .ok (.aload_n 0, 1) := by decide +kernel
theorem dX8_isTraced_27 : decode cX8_isTraced 27 = .ok (.getfield 7, 3) := by decide +kernel
theorem dX8_isTraced_30 : decode cX8_isTraced 30 = .ok (.bipush 66, 2) := by decide +kernel
theorem dX8_isTraced_32 : decode cX8_isTraced 32 = .ok (.iload 4, 2) := by decide +kernel
theorem dX8_isTraced_34 : decode cX8_isTraced 34 = .ok (.iadd, 1) := by decide +kernel
theorem dX8_isTraced_35 : decode cX8_isTraced 35 = .ok (.iaload, 1) := by decide +kernel
theorem dX8_isTraced_36 : decode cX8_isTraced 36 = .ok (.istore 4, 2) := by decide +kernel
theorem dX8_isTraced_38 : decode cX8_isTraced 38 = .ok (.goto (-33), 3) := by decide +kernel
theorem dX8_isTraced_41 : decode cX8_isTraced 41 = .ok (.iload_n 3, 1) := by decide +kernel
theorem dX8_isTraced_42 : decode cX8_isTraced 42 = .ok (.ireturn, 1) := by decide +kernel
theorem dX8_weight_0 : decode cX8_weight 0 = .ok (.aload_n 0, 1) := by decide +kernel
theorem dX8_weight_1 : decode cX8_weight 1 = .ok (.iload_n 1, 1) := by decide +kernel
theorem dX8_weight_2 : decode cX8_weight 2 = .ok (.invokevirtual 111, 3) := by decide +kernel
theorem dX8_weight_5 : decode cX8_weight 5 = .ok (.ifCond .eq 13, 3) := by decide +kernel
theorem dX8_weight_8 : decode cX8_weight 8 = .ok (.iload_n 2, 1) := by decide +kernel
theorem dX8_weight_9 : decode cX8_weight 9 = .ok (.iconst 0, 1) := by decide +kernel
theorem dX8_weight_10 : decode cX8_weight 10 = .ok (.bipush 8, 2) := by decide +kernel
theorem dX8_weight_12 : decode cX8_weight 12 = .ok (.invokestatic 56, 3) := by decide +kernel
theorem dX8_weight_15 : decode cX8_weight 15 = .ok (.ifCond .ne 6, 3) := by decide +kernel
theorem dX8_weight_18 : decode cX8_weight 18 = .ok (.ldc 64, 2) := by decide +kernel
theorem dX8_weight_20 : decode cX8_weight 20 = .ok (.ireturn, 1) := by decide +kernel
theorem dX8_weight_21 : decode cX8_weight 21 = .ok (.iload_n 2, 1) := by decide +kernel
theorem dX8_weight_22 : decode cX8_weight 22 = .ok (.iconst 5, 1) := by decide +kernel
theorem dX8_weight_23 : decode cX8_weight 23 = .ok (.if_icmp .ge 18, 3) := by decide +kernel
theorem dX8_weight_26 : decode cX8_weight 26 = .ok (.aload_n 0, 1) := by decide +kernel
theorem dX8_weight_27 : decode cX8_weight 27 = .ok (.getfield 7, 3) := by decide +kernel
theorem dX8_weight_30 : decode cX8_weight 30 = .ok (.bipush 42, 2) := by decide +kernel
theorem dX8_weight_32 : decode cX8_weight 32 = .ok (.bipush 8, 2) := by decide +kernel
theorem dX8_weight_34 : decode cX8_weight 34 = .ok (.iload_n 2, 1) := by decide +kernel
theorem dX8_weight_35 : decode cX8_weight 35 = .ok (.imul, 1) := by decide +kernel
theorem dX8_weight_36 : decode cX8_weight 36 = .ok (.iadd, 1) := by decide +kernel
theorem dX8_weight_37 : decode cX8_weight 37 = .ok (.iload_n 1, 1) := by decide +kernel
theorem dX8_weight_38 : decode cX8_weight 38 = .ok (.iadd, 1) := by decide +kernel
theorem dX8_weight_39 : decode cX8_weight 39 = .ok (.iaload, 1) := by decide +kernel
theorem dX8_weight_40 : decode cX8_weight 40 = .ok (.ireturn, 1) := by decide +kernel
theorem dX8_weight_41 : decode cX8_weight 41 = .ok (.iload_n 2, 1) := by decide +kernel
theorem dX8_weight_42 : decode cX8_weight 42 = .ok (.bipush 8, 2) := by decide +kernel
theorem dX8_weight_44 : decode cX8_weight 44 = .ok (.if_icmp .ge 31, 3) := by decide +kernel
theorem dX8_weight_47 : decode cX8_weight 47 = .ok (.aload_n 0, 1) := by decide +kernel
theorem dX8_weight_48 : decode cX8_weight 48 = .ok (.iload_n 1, 1) := by decide +kernel
theorem dX8_weight_49 : decode cX8_weight 49 = .ok (.iload_n 2, 1) := by decide +kernel
theorem dX8_weight_50 : decode cX8_weight 50 = .ok (.iconst 5, 1) := by decide +kernel
theorem dX8_weight_51 : decode cX8_weight 51 = .ok (.if_icmp .ne 8, 3) := by decide +kernel
theorem dX8_weight_54 : decode cX8_weight 54 = .ok (.bipush 50, 2) := by decide +kernel
theorem dX8_weight_56 : decode cX8_weight 56 = .ok (.goto 15, 3) := by decide +kernel
theorem dX8_weight_59 : decode cX8_weight 59 = .ok (.iload_n 2, 1) := by decide +kernel
theorem dX8_weight_60 : decode cX8_weight 60 = .ok (.bipush 6, 2) := by decide +kernel
theorem dX8_weight_62 : decode cX8_weight 62 = .ok (.if_icmp .ne 8, 3) := by decide +kernel
theorem dX8_weight_65 : decode cX8_weight 65 = .ok (.bipush 58, 2) := by decide +kernel
theorem dX8_weight_67 : decode cX8_weight 67 = .ok (.goto 4, 3) := by decide +kernel
theorem dX8_weight_70 : decode cX8_weight 70 = .ok (.iconst (-1), 1) := by decide +kernel
theorem dX8_weight_71 : decode cX8_weight 71 = .ok (.invokevirtual 115, 3) := by decide +kernel
theorem dX8_weight_74 : decode cX8_weight 74 = .ok (.ireturn, 1) := by decide +kernel
theorem dX8_weight_75 : decode cX8_weight 75 = .ok (.iconst 0, 1) := by decide +kernel
theorem dX8_weight_76 : decode cX8_weight 76 = .ok (.istore_n 3, 1) := by decide +kernel
theorem dX8_weight_77 : decode cX8_weight 77 = .ok (.iconst 0, 1) := by decide +kernel
theorem dX8_weight_78 : decode cX8_weight 78 = .ok (.istore 4, 2) := by decide +kernel
theorem dX8_weight_80 : decode cX8_weight 80 = .ok (.iload 4, 2) := by decide +kernel
theorem dX8_weight_82 : decode cX8_weight 82 = .ok (.aload_n 0, 1) := by decide +kernel
theorem dX8_weight_83 : decode cX8_weight 83 = .ok (.getfield 7, 3) := by decide +kernel
theorem dX8_weight_86 : decode cX8_weight 86 = .ok (.bipush 41, 2) := by decide +kernel
theorem dX8_weight_88 : decode cX8_weight 88 = .ok (.iaload, 1) := by decide +kernel
theorem dX8_weight_89 : decode cX8_weight 89 = .ok (.if_icmp .ge 27, 3) := by decide +kernel
theorem dX8_weight_92 : decode cX8_weight 92 = .ok (.iload_n 3, 1) := by decide +kernel
theorem dX8_weight_93 : decode cX8_weight 93 = .ok (.aload_n 0, 1) := by decide +kernel
theorem dX8_weight_94 : decode cX8_weight 94 = .ok (.iload 4, 2) := by decide +kernel
theorem dX8_weight_96 : decode cX8_weight 96 = .ok (.iload_n 1, 1) := by decide +kernel
theorem dX8_weight_97 : decode cX8_weight 97 = .ok (.invokevirtual 118, 3) := by decide +kernel
theorem dX8_weight_100 : decode cX8_weight 100 = .ok (.ifCond .eq 7, 3) := by decide +kernel
theorem dX8_weight_103 : decode cX8_weight 103 = .ok (.iconst 1, 1) := by decide +kernel
theorem dX8_weight_104 : decode cX8_weight 104 = .ok (.goto 4, 3) := by decide +kernel
theorem dX8_weight_107 : decode cX8_weight 107 = .ok (.iconst 0, 1) := by decide +kernel
theorem dX8_weight_108 : decode cX8_weight 108 = .ok (.iadd, 1) := by decide +kernel
theorem dX8_weight_109 : decode cX8_weight 109 = .ok (.istore_n 3, 1) := by decide +kernel
theorem dX8_weight_110 : decode cX8_weight 110 = .ok (.iinc 4 1, 3) := by decide +kernel
theorem dX8_weight_113 : decode cX8_weight 113 = .ok (.goto (-33), 3) := by decide +kernel
theorem dX8_weight_116 : decode cX8_weight 116 = .ok (.iload_n 3, 1) := by decide +kernel
theorem dX8_weight_117 : decode cX8_weight 117 = .ok (.ireturn, 1) := by decide +kernel
theorem dX8_ones_0 : decode cX8_ones 0 = .ok (.iconst 0, 1) := by decide +kernel
theorem dX8_ones_1 : decode cX8_ones 1 = .ok (.istore_n 1, 1) := by decide +kernel
theorem dX8_ones_2 : decode cX8_ones 2 = .ok (.iload_n 0, 1) := by decide +kernel
theorem dX8_ones_3 : decode cX8_ones 3 = .ok (.istore_n 2, 1) := by decide +kernel
theorem dX8_ones_4 : decode cX8_ones 4 = .ok (.iload_n 2, 1) := by decide +kernel
theorem dX8_ones_5 : decode cX8_ones 5 = .ok (.ifCond .eq 15, 3) := by decide +kernel
theorem dX8_ones_8 : decode cX8_ones 8 = .ok (.iinc 1 1, 3) := by decide +kernel
theorem dX8_ones_11 : decode cX8_ones 11 = .ok (.iload_n 2, 1) := by decide +kernel
theorem dX8_ones_12 : decode cX8_ones 12 = .ok (.iload_n 2, 1) := by decide +kernel
theorem dX8_ones_13 : decode cX8_ones 13 = .ok (.iconst 1, 1) := by decide +kernel
theorem dX8_ones_14 : decode cX8_ones 14 = .ok (.isub, 1) := by decide +kernel
theorem dX8_ones_15 : decode cX8_ones 15 = .ok (.iand, 1) := by decide +kernel
theorem dX8_ones_16 : decode cX8_ones 16 = .ok (.istore_n 2, 1) := by decide +kernel
theorem dX8_ones_17 : decode cX8_ones 17 = .ok (.goto (-13), 3) := by decide +kernel
theorem dX8_ones_20 : decode cX8_ones 20 = .ok (.iload_n 1, 1) := by decide +kernel
theorem dX8_ones_21 : decode cX8_ones 21 = .ok (.ireturn, 1) := by decide +kernel
theorem dX8_isSet_0 : decode cX8_isSet 0 = .ok (.iload_n 1, 1) := by decide +kernel
theorem dX8_isSet_1 : decode cX8_isSet 1 = .ok (.ifCond .le 27, 3) := by decide +kernel
theorem dX8_isSet_4 : decode cX8_isSet 4 = .ok (.iload_n 1, 1) := by decide +kernel
theorem dX8_isSet_5 : decode cX8_isSet 5 = .ok (.aload_n 0, 1) := by decide +kernel
theorem dX8_isSet_6 : decode cX8_isSet 6 = .ok (.getfield 7, 3) := by decide +kernel
theorem dX8_isSet_9 : decode cX8_isSet 9 = .ok (.bipush 41, 2) := by decide +kernel
theorem dX8_isSet_11 : decode cX8_isSet 11 = .ok (.iaload, 1) := by decide +kernel
theorem dX8_isSet_12 : decode cX8_isSet 12 = .ok (.ishr, 1) := by decide +kernel
theorem dX8_isSet_13 : decode cX8_isSet 13 = .ok (.ifCond .ne 15, 3) := by decide +kernel
theorem dX8_isSet_16 : decode cX8_isSet 16 = .ok (.iload_n 1, 1) := by decide +kernel
theorem dX8_isSet_17 : decode cX8_isSet 17 = .ok (.invokestatic 122, 3) := by decide +kernel
theorem dX8_isSet_20 : decode cX8_isSet 20 = .ok (.iconst 5, 1) := by decide +kernel
theorem dX8_isSet_21 : decode cX8_isSet 21 = .ok (.if_icmp .gt 7, 3) := by decide +kernel
theorem dX8_isSet_24 : decode cX8_isSet 24 = .ok (.iconst 1, 1) := by decide +kernel
theorem dX8_isSet_25 : decode cX8_isSet 25 = .ok (.goto 4, 3) := by decide +kernel
theorem dX8_isSet_28 : decode cX8_isSet 28 = .ok (.iconst 0, 1) := by decide +kernel
theorem dX8_isSet_29 : decode cX8_isSet 29 = .ok (.ireturn, 1) := by decide +kernel
theorem dX8_isCalibrating_0 : decode cX8_isCalibrating 0 = .ok (.iconst 0, 1) := by decide +kernel
theorem dX8_isCalibrating_1 : decode cX8_isCalibrating 1 = .ok (.istore_n 2, 1) := by decide +kernel
theorem dX8_isCalibrating_2 : decode cX8_isCalibrating 2 = .ok (.iconst 1, 1) := by decide +kernel
theorem dX8_isCalibrating_3 : decode cX8_isCalibrating 3 = .ok (.istore_n 3, 1) := by decide +kernel
theorem dX8_isCalibrating_4 : decode cX8_isCalibrating 4 = .ok (.iconst 0, 1) := by decide +kernel
theorem dX8_isCalibrating_5 : decode cX8_isCalibrating 5 = .ok (.istore 4, 2) := by decide +kernel
theorem dX8_isCalibrating_7 : decode cX8_isCalibrating 7 = .ok (.iload 4, 2) := by decide +kernel
theorem dX8_isCalibrating_9 : decode cX8_isCalibrating 9 = .ok (.aload_n 0, 1) := by decide +kernel
theorem dX8_isCalibrating_10 : decode cX8_isCalibrating 10 = .ok (.getfield 7, 3) := by decide +kernel
theorem dX8_isCalibrating_13 : decode cX8_isCalibrating 13 = .ok (.bipush 41, 2) := by decide +kernel
theorem dX8_isCalibrating_15 : decode cX8_isCalibrating 15 = .ok (.iaload, 1) := by decide +kernel
theorem dX8_isCalibrating_16 : decode cX8_isCalibrating 16 = .ok (.if_icmp .ge 55, 3) := by decide +kernel
theorem dX8_isCalibrating_19 : decode cX8_isCalibrating 19 = .ok (.iload_n 1, 1) := by decide +kernel
theorem dX8_isCalibrating_20 : decode cX8_isCalibrating 20 = .ok (.iload 4, 2) := by decide +kernel
theorem dX8_isCalibrating_22 : decode cX8_isCalibrating 22 = .ok (.ishr, 1) := by decide +kernel
theorem dX8_isCalibrating_23 : decode cX8_isCalibrating 23 = .ok (.iconst 1, 1) := by decide +kernel
theorem dX8_isCalibrating_24 : decode cX8_isCalibrating 24 = .ok (.iand, 1) := by decide +kernel
theorem dX8_isCalibrating_25 : decode cX8_isCalibrating 25 = .ok (.iconst 1, 1) := by decide +kernel
theorem dX8_isCalibrating_26 : decode cX8_isCalibrating 26 = .ok (.if_icmp .ne 39, 3) := by decide +kernel
theorem dX8_isCalibrating_29 : decode cX8_isCalibrating 29 = .ok (.iload_n 2, 1) := by decide +kernel
theorem dX8_isCalibrating_30 : decode cX8_isCalibrating 30 = .ok (.aload_n 0, 1) := by decide +kernel
theorem dX8_isCalibrating_31 : decode cX8_isCalibrating 31 = .ok (.getfield 7, 3) := by decide +kernel
theorem dX8_isCalibrating_34 : decode cX8_isCalibrating 34 = .ok (.bipush 42, 2) := by decide +kernel
theorem dX8_isCalibrating_36 : decode cX8_isCalibrating 36 = .ok (.iload 4, 2) := by decide +kernel
theorem dX8_isCalibrating_38 : decode cX8_isCalibrating 38 = .ok (.iadd, 1) := by decide +kernel
theorem dX8_isCalibrating_39 : decode cX8_isCalibrating 39 = .ok (.iaload, 1) := by decide +kernel
theorem dX8_isCalibrating_40 : decode cX8_isCalibrating 40 = .ok (.iadd, 1) := by decide +kernel
theorem dX8_isCalibrating_41 : decode cX8_isCalibrating 41 = .ok (.istore_n 2, 1) := by decide +kernel
theorem dX8_isCalibrating_42 : decode cX8_isCalibrating 42 = .ok (.iload_n 3, 1) := by decide +kernel
theorem dX8_isCalibrating_43 : decode cX8_isCalibrating 43 = .ok (.ifCond .eq 20, 3) := by decide +kernel
theorem dX8_isCalibrating_46 : decode cX8_isCalibrating 46 = .ok (.aload_n 0, 1) := by decide +kernel
theorem dX8_isCalibrating_47 : decode cX8_isCalibrating 47 = .ok (.getfield 7, 3) := by decide +kernel
theorem dX8_isCalibrating_50 : decode cX8_isCalibrating 50 = .ok (.bipush 74, 2) := by decide +kernel
theorem dX8_isCalibrating_52 : decode cX8_isCalibrating 52 = .ok (.iload 4, 2) := by decide +kernel
theorem dX8_isCalibrating_54 : decode cX8_isCalibrating 54 = .ok (.iadd, 1) := by decide +kernel
theorem dX8_isCalibrating_55 : decode cX8_isCalibrating 55 = .ok (.iaload, 1) := by decide +kernel
theorem dX8_isCalibrating_56 : decode cX8_isCalibrating 56 = .ok (.ifCond .ne 7, 3) := by decide +kernel
theorem dX8_isCalibrating_59 : decode cX8_isCalibrating 59 = .ok (.iconst 1, 1) := by decide +kernel
theorem dX8_isCalibrating_60 : decode cX8_isCalibrating 60 = .ok (.goto 4, 3) := by decide +kernel
theorem dX8_isCalibrating_63 : decode cX8_isCalibrating 63 = .ok (.iconst 0, 1) := by decide +kernel
theorem dX8_isCalibrating_64 : decode cX8_isCalibrating 64 = .ok (.istore_n 3, 1) := by decide +kernel
theorem dX8_isCalibrating_65 : decode cX8_isCalibrating 65 = .ok (.iinc 4 1, 3) := by decide +kernel
theorem dX8_isCalibrating_68 : decode cX8_isCalibrating 68 = .ok (.goto (-61), 3) := by decide +kernel
theorem dX8_isCalibrating_71 : decode cX8_isCalibrating 71 = .ok (.iload_n 3, 1) := by decide +kernel
theorem dX8_isCalibrating_72 : decode cX8_isCalibrating 72 = .ok (.ifCond .eq 14, 3) := by decide +kernel
theorem dX8_isCalibrating_75 : decode cX8_isCalibrating 75 = .ok (.iload_n 2, 1) := by decide +kernel
theorem dX8_isCalibrating_76 : decode cX8_isCalibrating 76 = .ok (.sipush 1000, 3) := by decide +kernel
theorem dX8_isCalibrating_79 : decode cX8_isCalibrating 79 = .ok (.if_icmp .gt 7, 3) := by decide +kernel
theorem dX8_isCalibrating_82 : decode cX8_isCalibrating 82 = .ok (.iconst 1, 1) := by decide +kernel
theorem dX8_isCalibrating_83 : decode cX8_isCalibrating 83 = .ok (.goto 4, 3) := by decide +kernel
theorem dX8_isCalibrating_86 : decode cX8_isCalibrating 86 = .ok (.iconst 0, 1) := by decide +kernel
theorem dX8_isCalibrating_87 : decode cX8_isCalibrating 87 = .ok (.ireturn, 1) := by decide +kernel
theorem dX8_calibrates_0 : decode cX8_calibrates 0 = .ok (.iconst 0, 1) := by decide +kernel
theorem dX8_calibrates_1 : decode cX8_calibrates 1 = .ok (.istore_n 2, 1) := by decide +kernel
theorem dX8_calibrates_2 : decode cX8_calibrates 2 = .ok (.iload_n 2, 1) := by decide +kernel
theorem dX8_calibrates_3 : decode cX8_calibrates 3 = .ok (.sipush 2086, 3) := by decide +kernel
theorem dX8_calibrates_6 : decode cX8_calibrates 6 = .ok (.if_icmp .ge 21, 3) := by decide +kernel
theorem dX8_calibrates_9 : decode cX8_calibrates 9 = .ok (.aload_n 0, 1) := by decide +kernel
theorem dX8_calibrates_10 : decode cX8_calibrates 10 = .ok (.getfield 24, 3) := by decide +kernel
theorem dX8_calibrates_13 : decode cX8_calibrates 13 = .ok (.iload_n 2, 1) := by decide +kernel
theorem dX8_calibrates_14 : decode cX8_calibrates 14 = .ok (.aload_n 0, 1) := by decide +kernel
theorem dX8_calibrates_15 : decode cX8_calibrates 15 = .ok (.getfield 7, 3) := by decide +kernel
theorem dX8_calibrates_18 : decode cX8_calibrates 18 = .ok (.iload_n 2, 1) := by decide +kernel
theorem dX8_calibrates_19 : decode cX8_calibrates 19 = .ok (.iaload, 1) := by decide +kernel
theorem dX8_calibrates_20 : decode cX8_calibrates 20 = .ok (.iastore, 1) := by decide +kernel
theorem dX8_calibrates_21 : decode cX8_calibrates 21 = .ok (.iinc 2 1, 3) := by decide +kernel
theorem dX8_calibrates_24 : decode cX8_calibrates 24 = .ok (.goto (-22), 3) := by decide +kernel
theorem dX8_calibrates_27 : decode cX8_calibrates 27 = .ok (.aload_n 0, 1) := by decide +kernel
theorem dX8_calibrates_28 : decode cX8_calibrates 28 = .ok (.getfield 37, 3) := by decide +kernel
theorem dX8_calibrates_31 : decode cX8_calibrates 31 = .ok (.lstore_n 2, 1) := by decide +kernel
theorem dX8_calibrates_32 : decode cX8_calibrates 32 = .ok (.aload_n 0, 1) := by decide +kernel
theorem dX8_calibrates_33 : decode cX8_calibrates 33 = .ok (.getfield 7, 3) := by decide +kernel
theorem dX8_calibrates_36 : decode cX8_calibrates 36 = .ok (.iconst 0, 1) := by decide +kernel
theorem dX8_calibrates_37 : decode cX8_calibrates 37 = .ok (.iconst 0, 1) := by decide +kernel
theorem dX8_calibrates_38 : decode cX8_calibrates 38 = .ok (.iastore, 1) := by decide +kernel
theorem dX8_calibrates_39 : decode cX8_calibrates 39 = .ok (.aload_n 0, 1) := by decide +kernel
theorem dX8_calibrates_40 : decode cX8_calibrates 40 = .ok (.invokevirtual 90, 3) := by decide +kernel
theorem dX8_calibrates_43 : decode cX8_calibrates 43 = .ok (.iconst 0, 1) := by decide +kernel
theorem dX8_calibrates_44 : decode cX8_calibrates 44 = .ok (.istore 4, 2) := by decide +kernel
theorem dX8_calibrates_46 : decode cX8_calibrates 46 = .ok (.aload_n 0, 1) := by decide +kernel
theorem dX8_calibrates_47 : decode cX8_calibrates 47 = .ok (.getfield 27, 3) := by decide +kernel
theorem dX8_calibrates_50 : decode cX8_calibrates 50 = .ok (.iconst 0, 1) := by decide +kernel
theorem dX8_calibrates_51 : decode cX8_calibrates 51 = .ok (.iconst 0, 1) := by decide +kernel
theorem dX8_calibrates_52 : decode cX8_calibrates 52 = .ok (.iastore, 1) := by decide +kernel
theorem dX8_calibrates_53 : decode cX8_calibrates 53 = .ok (.aload_n 0, 1) := by decide +kernel
theorem dX8_calibrates_54 : decode cX8_calibrates 54 = .ok (.getfield 30, 3) := by decide +kernel
theorem dX8_calibrates_57 : decode cX8_calibrates 57 = .ok (.iconst 0, 1) := by decide +kernel
theorem dX8_calibrates_58 : decode cX8_calibrates 58 = .ok (.iconst 0, 1) := by decide +kernel
theorem dX8_calibrates_59 : decode cX8_calibrates 59 = .ok (.iastore, 1) := by decide +kernel
theorem dX8_calibrates_60 : decode cX8_calibrates 60 = .ok (.iconst 0, 1) := by decide +kernel
theorem dX8_calibrates_61 : decode cX8_calibrates 61 = .ok (.istore 5, 2) := by decide +kernel
theorem dX8_calibrates_63 : decode cX8_calibrates 63 = .ok (.iload 5, 2) := by decide +kernel
theorem dX8_calibrates_65 : decode cX8_calibrates 65 = .ok (.aload_n 0, 1) := by decide +kernel
theorem dX8_calibrates_66 : decode cX8_calibrates 66 = .ok (.getfield 7, 3) := by decide +kernel
theorem dX8_calibrates_69 : decode cX8_calibrates 69 = .ok (.bipush 41, 2) := by decide +kernel
theorem dX8_calibrates_71 : decode cX8_calibrates 71 = .ok (.iaload, 1) := by decide +kernel
theorem dX8_calibrates_72 : decode cX8_calibrates 72 = .ok (.if_icmp .ge 94, 3) := by decide +kernel
theorem dX8_calibrates_75 : decode cX8_calibrates 75 = .ok (.iload_n 1, 1) := by decide +kernel
theorem dX8_calibrates_76 : decode cX8_calibrates 76 = .ok (.iload 5, 2) := by decide +kernel
theorem dX8_calibrates_78 : decode cX8_calibrates 78 = .ok (.ishr, 1) := by decide +kernel
theorem dX8_calibrates_79 : decode cX8_calibrates 79 = .ok (.iconst 1, 1) := by decide +kernel
theorem dX8_calibrates_80 : decode cX8_calibrates 80 = .ok (.iand, 1) := by decide +kernel
theorem dX8_calibrates_81 : decode cX8_calibrates 81 = .ok (.iconst 1, 1) := by decide +kernel
theorem dX8_calibrates_82 : decode cX8_calibrates 82 = .ok (.if_icmp .ne 78, 3) := by decide +kernel
theorem dX8_calibrates_85 : decode cX8_calibrates 85 = .ok (.aload_n 0, 1) := by decide +kernel
theorem dX8_calibrates_86 : decode cX8_calibrates 86 = .ok (.aload_n 0, 1) := by decide +kernel
theorem dX8_calibrates_87 : decode cX8_calibrates 87 = .ok (.getfield 7, 3) := by decide +kernel
theorem dX8_calibrates_90 : decode cX8_calibrates 90 = .ok (.iconst 0, 1) := by decide +kernel
theorem dX8_calibrates_91 : decode cX8_calibrates 91 = .ok (.iaload, 1) := by decide +kernel
theorem dX8_calibrates_92 : decode cX8_calibrates 92 = .ok (.aload_n 0, 1) := by decide +kernel
theorem dX8_calibrates_93 : decode cX8_calibrates 93 = .ok (.getfield 7, 3) := by decide +kernel
theorem dX8_calibrates_96 : decode cX8_calibrates 96 = .ok (.bipush 42, 2) := by decide +kernel
theorem dX8_calibrates_98 : decode cX8_calibrates 98 = .ok (.iload 5, 2) := by decide +kernel
theorem dX8_calibrates_100 : decode cX8_calibrates 100 = .ok (.iadd, 1) := by decide +kernel
theorem dX8_calibrates_101 : decode cX8_calibrates 101 = .ok (.iaload, 1) := by decide +kernel
theorem dX8_calibrates_102 : decode cX8_calibrates 102 = .ok (.iadd, 1) := by decide +kernel
theorem dX8_calibrates_103 : decode cX8_calibrates 103 = .ok (.invokevirtual 60, 3) := by decide +kernel
theorem dX8_calibrates_106 : decode cX8_calibrates 106 = .ok (.iinc 4 1, 3) := by decide +kernel
theorem dX8_calibrates_109 : decode cX8_calibrates 109 = .ok (.aload_n 0, 1) := by decide +kernel
theorem dX8_calibrates_110 : decode cX8_calibrates 110 = .ok (.getfield 27, 3) := by decide +kernel
theorem dX8_calibrates_113 : decode cX8_calibrates 113 = .ok (.iload 4, 2) := by decide +kernel
theorem dX8_calibrates_115 : decode cX8_calibrates 115 = .ok (.aload_n 0, 1) := by decide +kernel
theorem dX8_calibrates_116 : decode cX8_calibrates 116 = .ok (.getfield 7, 3) := by decide +kernel
theorem dX8_calibrates_119 : decode cX8_calibrates 119 = .ok (.iconst 3, 1) := by decide +kernel
theorem dX8_calibrates_120 : decode cX8_calibrates 120 = .ok (.iaload, 1) := by decide +kernel
theorem dX8_calibrates_121 : decode cX8_calibrates 121 = .ok (.iastore, 1) := by decide +kernel
theorem dX8_calibrates_122 : decode cX8_calibrates 122 = .ok (.aload_n 0, 1) := by decide +kernel
theorem dX8_calibrates_123 : decode cX8_calibrates 123 = .ok (.getfield 30, 3) := by decide +kernel
theorem dX8_calibrates_126 : decode cX8_calibrates 126 = .ok (.iload 4, 2) := by decide +kernel
theorem dX8_calibrates_128 : decode cX8_calibrates 128 = .ok (.aload_n 0, 1) := by decide +kernel
theorem dX8_calibrates_129 : decode cX8_calibrates 129 = .ok (.getfield 30, 3) := by decide +kernel
theorem dX8_calibrates_132 : decode cX8_calibrates 132 = .ok (.iload 4, 2) := by decide +kernel
theorem dX8_calibrates_134 : decode cX8_calibrates 134 = .ok (.iconst 1, 1) := by decide +kernel
theorem dX8_calibrates_135 : decode cX8_calibrates 135 = .ok (.isub, 1) := by decide +kernel
theorem dX8_calibrates_136 : decode cX8_calibrates 136 = .ok (.iaload, 1) := by decide +kernel
theorem dX8_calibrates_137 : decode cX8_calibrates 137 = .ok (.aload_n 0, 1) := by decide +kernel
theorem dX8_calibrates_138 : decode cX8_calibrates 138 = .ok (.getfield 7, 3) := by decide +kernel
theorem dX8_calibrates_141 : decode cX8_calibrates 141 = .ok (.bipush 42, 2) := by decide +kernel
theorem dX8_calibrates_143 : decode cX8_calibrates 143 = .ok (.iload 5, 2) := by decide +kernel
theorem dX8_calibrates_145 : decode cX8_calibrates 145 = .ok (.iadd, 1) := by decide +kernel
theorem dX8_calibrates_146 : decode cX8_calibrates 146 = .ok (.iaload, 1) := by decide +kernel
theorem dX8_calibrates_147 : decode cX8_calibrates 147 = .ok (.iadd, 1) := by decide +kernel
theorem dX8_calibrates_148 : decode cX8_calibrates 148 = .ok (.aload_n 0, 1) := by decide +kernel
theorem dX8_calibrates_149 : decode cX8_calibrates 149 = .ok (.getfield 7, 3) := by decide +kernel
theorem dX8_calibrates_152 : decode cX8_calibrates 152 = .ok (.bipush 50, 2) := by decide +kernel
theorem dX8_calibrates_154 : decode cX8_calibrates 154 = .ok (.iload 5, 2) := by decide +kernel
theorem dX8_calibrates_156 : decode cX8_calibrates 156 = .ok (.iadd, 1) := by decide +kernel
theorem dX8_calibrates_157 : decode cX8_calibrates 157 = .ok (.iaload, 1) := by decide +kernel
theorem dX8_calibrates_158 : decode cX8_calibrates 158 = .ok (.iadd, 1) := by decide +kernel
theorem dX8_calibrates_159 : decode cX8_calibrates 159 = .ok (.iastore, 1) := by decide +kernel
theorem dX8_calibrates_160 : decode cX8_calibrates 160 = .ok (.iinc 5 1, 3) := by decide +kernel
theorem dX8_calibrates_163 : decode cX8_calibrates 163 = .ok (.goto (-100), 3) := by decide +kernel
theorem dX8_calibrates_166 : decode cX8_calibrates 166 = .ok (.aload_n 0, 1) := by decide +kernel
theorem dX8_calibrates_167 : decode cX8_calibrates 167 = .ok (.getfield 27, 3) := by decide +kernel
theorem dX8_calibrates_170 : decode cX8_calibrates 170 = .ok (.bipush 6, 2) := by decide +kernel
theorem dX8_calibrates_172 : decode cX8_calibrates 172 = .ok (.iload 4, 2) := by decide +kernel
theorem dX8_calibrates_174 : decode cX8_calibrates 174 = .ok (.iadd, 1) := by decide +kernel
theorem dX8_calibrates_175 : decode cX8_calibrates 175 = .ok (.aload_n 0, 1) := by decide +kernel
theorem dX8_calibrates_176 : decode cX8_calibrates 176 = .ok (.getfield 27, 3) := by decide +kernel
theorem dX8_calibrates_179 : decode cX8_calibrates 179 = .ok (.iload 4, 2) := by decide +kernel
theorem dX8_calibrates_181 : decode cX8_calibrates 181 = .ok (.iaload, 1) := by decide +kernel
theorem dX8_calibrates_182 : decode cX8_calibrates 182 = .ok (.iastore, 1) := by decide +kernel
theorem dX8_calibrates_183 : decode cX8_calibrates 183 = .ok (.aload_n 0, 1) := by decide +kernel
theorem dX8_calibrates_184 : decode cX8_calibrates 184 = .ok (.getfield 7, 3) := by decide +kernel
theorem dX8_calibrates_187 : decode cX8_calibrates 187 = .ok (.bipush 41, 2) := by decide +kernel
theorem dX8_calibrates_189 : decode cX8_calibrates 189 = .ok (.iaload, 1) := by decide +kernel
theorem dX8_calibrates_190 : decode cX8_calibrates 190 = .ok (.iconst 1, 1) := by decide +kernel
theorem dX8_calibrates_191 : decode cX8_calibrates 191 = .ok (.isub, 1) := by decide +kernel
theorem dX8_calibrates_192 : decode cX8_calibrates 192 = .ok (.istore 5, 2) := by decide +kernel
theorem dX8_calibrates_194 : decode cX8_calibrates 194 = .ok (.iload 5, 2) := by decide +kernel
theorem dX8_calibrates_196 : decode cX8_calibrates 196 = .ok (.ifCond .lt 59, 3) := by decide +kernel
theorem dX8_calibrates_199 : decode cX8_calibrates 199 = .ok (.iload_n 1, 1) := by decide +kernel
theorem dX8_calibrates_200 : decode cX8_calibrates 200 = .ok (.iload 5, 2) := by decide +kernel
theorem dX8_calibrates_202 : decode cX8_calibrates 202 = .ok (.ishr, 1) := by decide +kernel
theorem dX8_calibrates_203 : decode cX8_calibrates 203 = .ok (.iconst 1, 1) := by decide +kernel
theorem dX8_calibrates_204 : decode cX8_calibrates 204 = .ok (.iand, 1) := by decide +kernel
theorem dX8_calibrates_205 : decode cX8_calibrates 205 = .ok (.iconst 1, 1) := by decide +kernel
theorem dX8_calibrates_206 : decode cX8_calibrates 206 = .ok (.if_icmp .ne 43, 3) := by decide +kernel
theorem dX8_calibrates_209 : decode cX8_calibrates 209 = .ok (.aload_n 0, 1) := by decide +kernel
theorem dX8_calibrates_210 : decode cX8_calibrates 210 = .ok (.aload_n 0, 1) := by decide +kernel
theorem dX8_calibrates_211 : decode cX8_calibrates 211 = .ok (.getfield 7, 3) := by decide +kernel
theorem dX8_calibrates_214 : decode cX8_calibrates 214 = .ok (.iconst 0, 1) := by decide +kernel
theorem dX8_calibrates_215 : decode cX8_calibrates 215 = .ok (.iaload, 1) := by decide +kernel
theorem dX8_calibrates_216 : decode cX8_calibrates 216 = .ok (.aload_n 0, 1) := by decide +kernel
theorem dX8_calibrates_217 : decode cX8_calibrates 217 = .ok (.getfield 7, 3) := by decide +kernel
theorem dX8_calibrates_220 : decode cX8_calibrates 220 = .ok (.bipush 42, 2) := by decide +kernel
theorem dX8_calibrates_222 : decode cX8_calibrates 222 = .ok (.iload 5, 2) := by decide +kernel
theorem dX8_calibrates_224 : decode cX8_calibrates 224 = .ok (.iadd, 1) := by decide +kernel
theorem dX8_calibrates_225 : decode cX8_calibrates 225 = .ok (.iaload, 1) := by decide +kernel
theorem dX8_calibrates_226 : decode cX8_calibrates 226 = .ok (.isub, 1) := by decide +kernel
theorem dX8_calibrates_227 : decode cX8_calibrates 227 = .ok (.invokevirtual 60, 3) := by decide +kernel
theorem dX8_calibrates_230 : decode cX8_calibrates 230 = .ok (.iinc 4 (-1), 3) := by decide +kernel
theorem dX8_calibrates_233 : decode cX8_calibrates 233 = .ok (.aload_n 0, 1) := by decide +kernel
theorem dX8_calibrates_234 : decode cX8_calibrates 234 = .ok (.getfield 27, 3) := by decide +kernel
theorem dX8_calibrates_237 : decode cX8_calibrates 237 = .ok (.bipush 6, 2) := by decide +kernel
theorem dX8_calibrates_239 : decode cX8_calibrates 239 = .ok (.iload 4, 2) := by decide +kernel
theorem dX8_calibrates_241 : decode cX8_calibrates 241 = .ok (.iadd, 1) := by decide +kernel
theorem dX8_calibrates_242 : decode cX8_calibrates 242 = .ok (.aload_n 0, 1) := by decide +kernel
theorem dX8_calibrates_243 : decode cX8_calibrates 243 = .ok (.getfield 7, 3) := by decide +kernel
theorem dX8_calibrates_246 : decode cX8_calibrates 246 = .ok (.iconst 3, 1) := by decide +kernel
theorem dX8_calibrates_247 : decode cX8_calibrates 247 = .ok (.iaload, 1) := by decide +kernel
theorem dX8_calibrates_248 : decode cX8_calibrates 248 = .ok (.iastore, 1) := by decide +kernel
theorem dX8_calibrates_249 : decode cX8_calibrates 249 = .ok (.iinc 5 (-1), 3) := by decide +kernel
theorem dX8_calibrates_252 : decode cX8_calibrates 252 = .ok (.goto (-58), 3) := by decide +kernel
theorem dX8_calibrates_255 : decode cX8_calibrates 255 = .ok (.iconst 0, 1) := by decide +kernel
theorem dX8_calibrates_256 : decode cX8_calibrates 256 = .ok (.istore 5, 2) := by decide +kernel
theorem dX8_calibrates_258 : decode cX8_calibrates 258 = .ok (.iload 5, 2) := by decide +kernel
theorem dX8_calibrates_260 : decode cX8_calibrates 260 = .ok (.sipush 2086, 3) := by decide +kernel
