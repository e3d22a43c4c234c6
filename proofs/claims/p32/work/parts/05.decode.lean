theorem dX7_setPoint_66 : decode cX7_setPoint 66 = .ok (.ifCond .ne 6, 3) := by decide +kernel
theorem dX7_setPoint_69 : decode cX7_setPoint 69 = .ok (.ldc 169, 2) := by decide +kernel
theorem dX7_setPoint_71 : decode cX7_setPoint 71 = .ok (.ireturn, 1) := by decide +kernel
theorem dX7_setPoint_72 : decode cX7_setPoint 72 = .ok (.aload_n 0, 1) := by decide +kernel
theorem dX7_setPoint_73 : decode cX7_setPoint 73 = .ok (.getfield 19, 3) := by decide +kernel
theorem dX7_setPoint_76 : decode cX7_setPoint 76 = .ok (.aload_n 0, 1) := by decide +kernel
theorem dX7_setPoint_77 : decode cX7_setPoint 77 = .ok (.getfield 12, 3) := by decide +kernel
theorem dX7_setPoint_80 : decode cX7_setPoint 80 = .ok (.invokevirtual 49, 3) := by decide +kernel
theorem dX7_setPoint_83 : decode cX7_setPoint 83 = .ok (.aload_n 3, 1) := by decide +kernel
theorem dX7_setPoint_84 : decode cX7_setPoint 84 = .ok (.iload_n 1, 1) := by decide +kernel
theorem dX7_setPoint_85 : decode cX7_setPoint 85 = .ok (.iload_n 2, 1) := by decide +kernel
theorem dX7_setPoint_86 : decode cX7_setPoint 86 = .ok (.invokevirtual 170, 3) := by decide +kernel
theorem dX7_setPoint_89 : decode cX7_setPoint 89 = .ok (.aload_n 3, 1) := by decide +kernel
theorem dX7_setPoint_90 : decode cX7_setPoint 90 = .ok (.getfield 93, 3) := by decide +kernel
theorem dX7_setPoint_93 : decode cX7_setPoint 93 = .ok (.ireturn, 1) := by decide +kernel
theorem dX7_curve_0 : decode cX7_curve 0 = .ok (.iload_n 1, 1) := by decide +kernel
theorem dX7_curve_1 : decode cX7_curve 1 = .ok (.iconst 0, 1) := by decide +kernel
theorem dX7_curve_2 : decode cX7_curve 2 = .ok (.iconst 1, 1) := by decide +kernel
theorem dX7_curve_3 : decode cX7_curve 3 = .ok (.invokestatic 37, 3) := by decide +kernel
theorem dX7_curve_6 : decode cX7_curve 6 = .ok (.ifCond .ne 14, 3) := by decide +kernel
theorem dX7_curve_9 : decode cX7_curve 9 = .ok (.iload_n 2, 1) := by decide +kernel
theorem dX7_curve_10 : decode cX7_curve 10 = .ok (.iconst 0, 1) := by decide +kernel
theorem dX7_curve_11 : decode cX7_curve 11 = .ok (.sipush 1000, 3) := by decide +kernel
theorem dX7_curve_14 : decode cX7_curve 14 = .ok (.invokestatic 37, 3) := by decide +kernel
theorem dX7_curve_17 : decode cX7_curve 17 = .ok (.ifCond .eq 6, 3) := by decide +kernel
theorem dX7_curve_20 : decode cX7_curve 20 = .ok (.ldc 41, 2) := by decide +kernel
theorem dX7_curve_22 : decode cX7_curve 22 = .ok (.ireturn, 1) := by decide +kernel
theorem dX7_curve_23 : decode cX7_curve 23 = .ok (.aload_n 0, 1) := by decide +kernel
theorem dX7_curve_24 : decode cX7_curve 24 = .ok (.getfield 12, 3) := by decide +kernel
theorem dX7_curve_27 : decode cX7_curve 27 = .ok (.getfield 53, 3) := by decide +kernel
theorem dX7_curve_30 : decode cX7_curve 30 = .ok (.getfield 131, 3) := by decide +kernel
theorem dX7_curve_33 : decode cX7_curve 33 = .ok (.iload_n 2, 1) := by decide +kernel
theorem dX7_curve_34 : decode cX7_curve 34 = .ok (.iload_n 1, 1) := by decide +kernel
theorem dX7_curve_35 : decode cX7_curve 35 = .ok (.ifCond .ne 7, 3) := by decide +kernel
theorem dX7_curve_38 : decode cX7_curve 38 = .ok (.iconst 1, 1) := by decide +kernel
theorem dX7_curve_39 : decode cX7_curve 39 = .ok (.goto 4, 3) := by decide +kernel
theorem dX7_curve_42 : decode cX7_curve 42 = .ok (.iconst 2, 1) := by decide +kernel
theorem dX7_curve_43 : decode cX7_curve 43 = .ok (.invokevirtual 187, 3) := by decide +kernel
theorem dX7_curve_46 : decode cX7_curve 46 = .ok (.ireturn, 1) := by decide +kernel
theorem dX7_readingAt_0 : decode cX7_readingAt 0 = .ok (.iload_n 1, 1) := by decide +kernel
theorem dX7_readingAt_1 : decode cX7_readingAt 1 = .ok (.sipush (-1000), 3) := by decide +kernel
theorem dX7_readingAt_4 : decode cX7_readingAt 4 = .ok (.sipush 30000, 3) := by decide +kernel
theorem dX7_readingAt_7 : decode cX7_readingAt 7 = .ok (.invokestatic 37, 3) := by decide +kernel
theorem dX7_readingAt_10 : decode cX7_readingAt 10 = .ok (.ifCond .eq 6, 3) := by decide +kernel
theorem dX7_readingAt_13 : decode cX7_readingAt 13 = .ok (.ldc 41, 2) := by decide +kernel
theorem dX7_readingAt_15 : decode cX7_readingAt 15 = .ok (.ireturn, 1) := by decide +kernel
theorem dX7_readingAt_16 : decode cX7_readingAt 16 = .ok (.aload_n 0, 1) := by decide +kernel
theorem dX7_readingAt_17 : decode cX7_readingAt 17 = .ok (.getfield 12, 3) := by decide +kernel
theorem dX7_readingAt_20 : decode cX7_readingAt 20 = .ok (.getfield 134, 3) := by decide +kernel
theorem dX7_readingAt_23 : decode cX7_readingAt 23 = .ok (.iload_n 1, 1) := by decide +kernel
theorem dX7_readingAt_24 : decode cX7_readingAt 24 = .ok (.iconst 1, 1) := by decide +kernel
theorem dX7_readingAt_25 : decode cX7_readingAt 25 = .ok (.invokevirtual 187, 3) := by decide +kernel
theorem dX7_readingAt_28 : decode cX7_readingAt 28 = .ok (.ireturn, 1) := by decide +kernel
theorem dX7_set_0 : decode cX7_set 0 = .ok (.iload_n 1, 1) := by decide +kernel
theorem dX7_set_1 : decode cX7_set 1 = .ok (.iconst 0, 1) := by decide +kernel
theorem dX7_set_2 : decode cX7_set 2 = .ok (.iconst 2, 1) := by decide +kernel
theorem dX7_set_3 : decode cX7_set 3 = .ok (.invokestatic 37, 3) := by decide +kernel
theorem dX7_set_6 : decode cX7_set 6 = .ok (.ifCond .ne 15, 3) := by decide +kernel
theorem dX7_set_9 : decode cX7_set 9 = .ok (.iload_n 2, 1) := by decide +kernel
theorem dX7_set_10 : decode cX7_set 10 = .ok (.iconst 0, 1) := by decide +kernel
theorem dX7_set_11 : decode cX7_set 11 = .ok (.iload_n 1, 1) := by decide +kernel
theorem dX7_set_12 : decode cX7_set 12 = .ok (.invokestatic 198, 3) := by decide +kernel
theorem dX7_set_15 : decode cX7_set 15 = .ok (.invokestatic 37, 3) := by decide +kernel
theorem dX7_set_18 : decode cX7_set 18 = .ok (.ifCond .eq 6, 3) := by decide +kernel
theorem dX7_set_21 : decode cX7_set 21 = .ok (.ldc 41, 2) := by decide +kernel
theorem dX7_set_23 : decode cX7_set 23 = .ok (.ireturn, 1) := by decide +kernel
theorem dX7_set_24 : decode cX7_set 24 = .ok (.aload_n 0, 1) := by decide +kernel
theorem dX7_set_25 : decode cX7_set 25 = .ok (.getfield 19, 3) := by decide +kernel
theorem dX7_set_28 : decode cX7_set 28 = .ok (.aload_n 0, 1) := by decide +kernel
theorem dX7_set_29 : decode cX7_set 29 = .ok (.getfield 12, 3) := by decide +kernel
theorem dX7_set_32 : decode cX7_set 32 = .ok (.invokevirtual 49, 3) := by decide +kernel
theorem dX7_set_35 : decode cX7_set 35 = .ok (.aload_n 0, 1) := by decide +kernel
theorem dX7_set_36 : decode cX7_set 36 = .ok (.getfield 12, 3) := by decide +kernel
theorem dX7_set_39 : decode cX7_set 39 = .ok (.getfield 53, 3) := by decide +kernel
theorem dX7_set_42 : decode cX7_set 42 = .ok (.iload_n 1, 1) := by decide +kernel
theorem dX7_set_43 : decode cX7_set 43 = .ok (.iload_n 2, 1) := by decide +kernel
theorem dX7_set_44 : decode cX7_set 44 = .ok (.invokevirtual 201, 3) := by decide +kernel
theorem dX7_set_47 : decode cX7_set 47 = .ok (.ireturn, 1) := by decide +kernel
theorem dX7_isOutside_0 : decode cX7_isOutside 0 = .ok (.iload_n 0, 1) := by decide +kernel
theorem dX7_isOutside_1 : decode cX7_isOutside 1 = .ok (.iload_n 1, 1) := by decide +kernel
theorem dX7_isOutside_2 : decode cX7_isOutside 2 = .ok (.if_icmp .lt 8, 3) := by decide +kernel
theorem dX7_isOutside_5 : decode cX7_isOutside 5 = .ok (.iload_n 0, 1) := by decide +kernel
theorem dX7_isOutside_6 : decode cX7_isOutside 6 = .ok (.iload_n 2, 1) := by decide +kernel
theorem dX7_isOutside_7 : decode cX7_isOutside 7 = .ok (.if_icmp .le 7, 3) := by decide +kernel
theorem dX7_isOutside_10 : decode cX7_isOutside 10 = .ok (.iconst 1, 1) := by decide +kernel
theorem dX7_isOutside_11 : decode cX7_isOutside 11 = .ok (.goto 4, 3) := by decide +kernel
theorem dX7_isOutside_14 : decode cX7_isOutside 14 = .ok (.iconst 0, 1) := by decide +kernel
theorem dX7_isOutside_15 : decode cX7_isOutside 15 = .ok (.ireturn, 1) := by decide +kernel
theorem dX7_errorOf_0 : decode cX7_errorOf 0 = .ok (.iload_n 0, 1) := by decide +kernel
theorem dX7_errorOf_1 : decode cX7_errorOf 1 = .ok (.ifCond .ne 5, 3) := by decide +kernel
theorem dX7_errorOf_4 : decode cX7_errorOf 4 = .ok (.iconst 0, 1) := by decide +kernel
theorem dX7_errorOf_5 : decode cX7_errorOf 5 = .ok (.ireturn, 1) := by decide +kernel
theorem dX7_errorOf_6 : decode cX7_errorOf 6 = .ok (.iload_n 0, 1) := by decide +kernel
theorem dX7_errorOf_7 : decode cX7_errorOf 7 = .ok (.iconst 1, 1) := by decide +kernel
theorem dX7_errorOf_8 : decode cX7_errorOf 8 = .ok (.if_icmp .ne 8, 3) := by decide +kernel
theorem dX7_errorOf_11 : decode cX7_errorOf 11 = .ok (.ldc 41, 2) := by decide +kernel
theorem dX7_errorOf_13 : decode cX7_errorOf 13 = .ok (.goto 5, 3) := by decide +kernel
theorem dX7_errorOf_16 : decode cX7_errorOf 16 = .ok (.ldc 102, 2) := by decide +kernel
theorem dX7_errorOf_18 : decode cX7_errorOf 18 = .ok (.ireturn, 1) := by decide +kernel
theorem dX7_topOfSetting_0 : decode cX7_topOfSetting 0 = .ok (.iload_n 0, 1) := by decide +kernel
theorem dX7_topOfSetting_1 : decode cX7_topOfSetting 1 = .ok (.lookupswitch 34 #[(0, 27), (1, 31)], 27) := by decide +kernel
theorem dX7_topOfSetting_28 : decode cX7_topOfSetting 28 = .ok (.sipush 200, 3) := by decide +kernel
theorem dX7_topOfSetting_31 : decode cX7_topOfSetting 31 = .ok (.ireturn, 1) := by decide +kernel
theorem dX7_topOfSetting_32 : decode cX7_topOfSetting 32 = .ok (.bipush 100, 2) := by decide +kernel
theorem dX7_topOfSetting_34 : decode cX7_topOfSetting 34 = .ok (.ireturn, 1) := by decide +kernel
theorem dX7_topOfSetting_35 : decode cX7_topOfSetting 35 = .ok (.bipush 50, 2) := by decide +kernel
theorem dX7_topOfSetting_37 : decode cX7_topOfSetting 37 = .ok (.ireturn, 1) := by decide +kernel
theorem dJ9_abs_0f7a4_0 : decode cJ9_abs_0f7a4 0 = .ok (.iload_n 0, 1) := by decide +kernel
theorem dJ9_abs_0f7a4_1 : decode cJ9_abs_0f7a4 1 = .ok (.ifCond .ge 8, 3) := by decide +kernel
theorem dJ9_abs_0f7a4_4 : decode cJ9_abs_0f7a4 4 = .ok (.iload_n 0, 1) := by decide +kernel
theorem dJ9_abs_0f7a4_5 : decode cJ9_abs_0f7a4 5 = .ok (.ineg, 1) := by decide +kernel
theorem dJ9_abs_0f7a4_6 : decode cJ9_abs_0f7a4 6 = .ok (.goto 4, 3) := by decide +kernel
theorem dJ9_abs_0f7a4_9 : decode cJ9_abs_0f7a4 9 = .ok (.iload_n 0, 1) := by decide +kernel
theorem dJ9_abs_0f7a4_10 : decode cJ9_abs_0f7a4 10 = .ok (.ireturn, 1) := by decide +kernel
theorem dJ9_max_7cf53_0 : decode cJ9_max_7cf53 0 = .ok (.iload_n 0, 1) := by decide +kernel
theorem dJ9_max_7cf53_1 : decode cJ9_max_7cf53 1 = .ok (.iload_n 1, 1) := by decide +kernel
theorem dJ9_max_7cf53_2 : decode cJ9_max_7cf53 2 = .ok (.if_icmp .lt 7, 3) := by decide +kernel
theorem dJ9_max_7cf53_5 : decode cJ9_max_7cf53 5 = .ok (.iload_n 0, 1) := by decide +kernel
theorem dJ9_max_7cf53_6 : decode cJ9_max_7cf53 6 = .ok (.goto 4, 3) := by decide +kernel
theorem dJ9_max_7cf53_9 : decode cJ9_max_7cf53 9 = .ok (.iload_n 1, 1) := by decide +kernel
theorem dJ9_max_7cf53_10 : decode cJ9_max_7cf53 10 = .ok (.ireturn, 1) := by decide +kernel
theorem dJ9_min_7cf53_0 : decode cJ9_min_7cf53 0 = .ok (.iload_n 0, 1) := by decide +kernel
theorem dJ9_min_7cf53_1 : decode cJ9_min_7cf53 1 = .ok (.iload_n 1, 1) := by decide +kernel
theorem dJ9_min_7cf53_2 : decode cJ9_min_7cf53 2 = .ok (.if_icmp .gt 7, 3) := by decide +kernel
theorem dJ9_min_7cf53_5 : decode cJ9_min_7cf53 5 = .ok (.iload_n 0, 1) := by decide +kernel
theorem dJ9_min_7cf53_6 : decode cJ9_min_7cf53 6 = .ok (.goto 4, 3) := by decide +kernel
theorem dJ9_min_7cf53_9 : decode cJ9_min_7cf53 9 = .ok (.iload_n 1, 1) := by decide +kernel
theorem dJ9_min_7cf53_10 : decode cJ9_min_7cf53 10 = .ok (.ireturn, 1) := by decide +kernel
theorem dL_cell_0 : decode cL_cell 0 = .ok (.iload_n 1, 1) := by decide +kernel
theorem dL_cell_1 : decode cL_cell 1 = .ok (.aload_n 0, 1) := by decide +kernel
theorem dL_cell_2 : decode cL_cell 2 = .ok (.arraylength, 1) := by decide +kernel
theorem dL_cell_3 : decode cL_cell 3 = .ok (.if_icmp .ge 9, 3) := by decide +kernel
theorem dL_cell_6 : decode cL_cell 6 = .ok (.aload_n 0, 1) := by decide +kernel
theorem dL_cell_7 : decode cL_cell 7 = .ok (.iload_n 1, 1) := by decide +kernel
theorem dL_cell_8 : decode cL_cell 8 = .ok (.iaload, 1) := by decide +kernel
theorem dL_cell_9 : decode cL_cell 9 = .ok (.goto 10, 3) := by decide +kernel
theorem dL_cell_12 : decode cL_cell 12 = .ok (.ldc 7, 2) := by decide +kernel
theorem dL_cell_14 : decode cL_cell 14 = .ok (.iload_n 1, 1) := by decide +kernel
theorem dL_cell_15 : decode cL_cell 15 = .ok (.imul, 1) := by decide +kernel
theorem dL_cell_16 : decode cL_cell 16 = .ok (.bipush 109, 2) := by decide +kernel
theorem dL_cell_18 : decode cL_cell 18 = .ok (.iadd, 1) := by decide +kernel
theorem dL_cell_19 : decode cL_cell 19 = .ok (.ldc 8, 2) := by decide +kernel
theorem dL_cell_21 : decode cL_cell 21 = .ok (.iand, 1) := by decide +kernel
theorem dL_cell_22 : decode cL_cell 22 = .ok (.ireturn, 1) := by decide +kernel
theorem dL_holds_0 : decode cL_holds 0 = .ok (.aload_n 0, 1) := by decide +kernel
theorem dL_holds_1 : decode cL_holds 1 = .ok (.iconst 5, 1) := by decide +kernel
theorem dL_holds_2 : decode cL_holds 2 = .ok (.invokevirtual 9, 3) := by decide +kernel
theorem dL_holds_5 : decode cL_holds 5 = .ok (.istore_n 1, 1) := by decide +kernel
theorem dL_holds_6 : decode cL_holds 6 = .ok (.aload_n 0, 1) := by decide +kernel
theorem dL_holds_7 : decode cL_holds 7 = .ok (.invokevirtual 15, 3) := by decide +kernel
theorem dL_holds_10 : decode cL_holds 10 = .ok (.aload_n 0, 1) := by decide +kernel
theorem dL_holds_11 : decode cL_holds 11 = .ok (.iconst 1, 1) := by decide +kernel
theorem dL_holds_12 : decode cL_holds 12 = .ok (.invokevirtual 9, 3) := by decide +kernel
theorem dL_holds_15 : decode cL_holds 15 = .ok (.if_icmp .ne 33, 3) := by decide +kernel
theorem dL_holds_18 : decode cL_holds 18 = .ok (.aload_n 0, 1) := by decide +kernel
theorem dL_holds_19 : decode cL_holds 19 = .ok (.iconst 4, 1) := by decide +kernel
theorem dL_holds_20 : decode cL_holds 20 = .ok (.invokevirtual 9, 3) := by decide +kernel
theorem dL_holds_23 : decode cL_holds 23 = .ok (.aload_n 0, 1) := by decide +kernel
theorem dL_holds_24 : decode cL_holds 24 = .ok (.aload_n 0, 1) := by decide +kernel
theorem dL_holds_25 : decode cL_holds 25 = .ok (.iconst 3, 1) := by decide +kernel
theorem dL_holds_26 : decode cL_holds 26 = .ok (.invokevirtual 9, 3) := by decide +kernel
theorem dL_holds_29 : decode cL_holds 29 = .ok (.sipush (-1000), 3) := by decide +kernel
theorem dL_holds_32 : decode cL_holds 32 = .ok (.sipush 30000, 3) := by decide +kernel
theorem dL_holds_35 : decode cL_holds 35 = .ok (.invokestatic 19, 3) := by decide +kernel
theorem dL_holds_38 : decode cL_holds 38 = .ok (.invokevirtual 25, 3) := by decide +kernel
theorem dL_holds_41 : decode cL_holds 41 = .ok (.if_icmp .ne 7, 3) := by decide +kernel
theorem dL_holds_44 : decode cL_holds 44 = .ok (.iconst 1, 1) := by decide +kernel
theorem dL_holds_45 : decode cL_holds 45 = .ok (.goto 4, 3) := by decide +kernel
theorem dL_holds_48 : decode cL_holds 48 = .ok (.iconst 0, 1) := by decide +kernel
theorem dL_holds_49 : decode cL_holds 49 = .ok (.istore_n 2, 1) := by decide +kernel
theorem dL_holds_50 : decode cL_holds 50 = .ok (.aload_n 0, 1) := by decide +kernel
theorem dL_holds_51 : decode cL_holds 51 = .ok (.iconst 1, 1) := by decide +kernel
theorem dL_holds_52 : decode cL_holds 52 = .ok (.invokevirtual 9, 3) := by decide +kernel
theorem dL_holds_55 : decode cL_holds 55 = .ok (.aload_n 0, 1) := by decide +kernel
theorem dL_holds_56 : decode cL_holds 56 = .ok (.iconst 2, 1) := by decide +kernel
theorem dL_holds_57 : decode cL_holds 57 = .ok (.invokevirtual 9, 3) := by decide +kernel
theorem dL_holds_60 : decode cL_holds 60 = .ok (.iadd, 1) := by decide +kernel
theorem dL_holds_61 : decode cL_holds 61 = .ok (.istore_n 3, 1) := by decide +kernel
theorem dL_holds_62 : decode cL_holds 62 = .ok (.iload_n 3, 1) := by decide +kernel
theorem dL_holds_63 : decode cL_holds 63 = .ok (.aload_n 0, 1) := by decide +kernel
theorem dL_holds_64 : decode cL_holds 64 = .ok (.iconst 3, 1) := by decide +kernel
theorem dL_holds_65 : decode cL_holds 65 = .ok (.invokevirtual 9, 3) := by decide +kernel
theorem dL_holds_68 : decode cL_holds 68 = .ok (.isub, 1) := by decide +kernel
theorem dL_holds_69 : decode cL_holds 69 = .ok (.istore 4, 2) := by decide +kernel
theorem dL_holds_71 : decode cL_holds 71 = .ok (.iload_n 2, 1) := by decide +kernel
theorem dL_holds_72 : decode cL_holds 72 = .ok (.ifCond .eq 23, 3) := by decide +kernel
theorem dL_holds_75 : decode cL_holds 75 = .ok (.iload 4, 2) := by decide +kernel
theorem dL_holds_77 : decode cL_holds 77 = .ok (.sipush 200, 3) := by decide +kernel
theorem dL_holds_80 : decode cL_holds 80 = .ok (.if_icmp .gt 15, 3) := by decide +kernel
theorem dL_holds_83 : decode cL_holds 83 = .ok (.iload 4, 2) := by decide +kernel
theorem dL_holds_85 : decode cL_holds 85 = .ok (.sipush (-200), 3) := by decide +kernel
theorem dL_holds_88 : decode cL_holds 88 = .ok (.if_icmp .lt 7, 3) := by decide +kernel
theorem dL_holds_91 : decode cL_holds 91 = .ok (.iconst 1, 1) := by decide +kernel
theorem dL_holds_92 : decode cL_holds 92 = .ok (.goto 4, 3) := by decide +kernel
theorem dL_holds_95 : decode cL_holds 95 = .ok (.iconst 0, 1) := by decide +kernel
theorem dL_holds_96 : decode cL_holds 96 = .ok (.istore_n 2, 1) := by decide +kernel
theorem dL_holds_97 : decode cL_holds 97 = .ok (.iconst 1, 1) := by decide +kernel
theorem dL_holds_98 : decode cL_holds 98 = .ok (.istore 5, 2) := by decide +kernel
theorem dL_holds_100 : decode cL_holds 100 = .ok (.iload 5, 2) := by decide +kernel
theorem dL_holds_102 : decode cL_holds 102 = .ok (.iload_n 1, 1) := by decide +kernel
theorem dL_holds_103 : decode cL_holds 103 = .ok (.if_icmp .ge 123, 3) := by decide +kernel
theorem dL_holds_106 : decode cL_holds 106 = .ok (.iload_n 2, 1) := by decide +kernel
theorem dL_holds_107 : decode cL_holds 107 = .ok (.ifCond .eq 119, 3) := by decide +kernel
theorem dL_holds_110 : decode cL_holds 110 = .ok (.aload_n 0, 1) := by decide +kernel
theorem dL_holds_111 : decode cL_holds 111 = .ok (.iload 5, 2) := by decide +kernel
theorem dL_holds_113 : decode cL_holds 113 = .ok (.iconst 1, 1) := by decide +kernel
theorem dL_holds_114 : decode cL_holds 114 = .ok (.isub, 1) := by decide +kernel
theorem dL_holds_115 : decode cL_holds 115 = .ok (.iconst 0, 1) := by decide +kernel
theorem dL_holds_116 : decode cL_holds 116 = .ok (.invokevirtual 28, 3) := by decide +kernel
theorem dL_holds_119 : decode cL_holds 119 = .ok (.istore 6, 2) := by decide +kernel
theorem dL_holds_121 : decode cL_holds 121 = .ok (.aload_n 0, 1) := by decide +kernel
theorem dL_holds_122 : decode cL_holds 122 = .ok (.iload 5, 2) := by decide +kernel
theorem dL_holds_124 : decode cL_holds 124 = .ok (.iconst 0, 1) := by decide +kernel
theorem dL_holds_125 : decode cL_holds 125 = .ok (.invokevirtual 28, 3) := by decide +kernel
theorem dL_holds_128 : decode cL_holds 128 = .ok (.istore 7, 2) := by decide +kernel
theorem dL_holds_130 : decode cL_holds 130 = .ok (.iload 5, 2) := by decide +kernel
theorem dL_holds_132 : decode cL_holds 132 = .ok (.iconst 2, 1) := by decide +kernel
theorem dL_holds_133 : decode cL_holds 133 = .ok (.irem, 1) := by decide +kernel
theorem dL_holds_134 : decode cL_holds 134 = .ok (.iconst 1, 1) := by decide +kernel
theorem dL_holds_135 : decode cL_holds 135 = .ok (.if_icmp .ne 18, 3) := by decide +kernel
theorem dL_holds_138 : decode cL_holds 138 = .ok (.iload 7, 2) := by decide +kernel
theorem dL_holds_140 : decode cL_holds 140 = .ok (.iload 6, 2) := by decide +kernel
theorem dL_holds_142 : decode cL_holds 142 = .ok (.if_icmp .ge 7, 3) := by decide +kernel
theorem dL_holds_145 : decode cL_holds 145 = .ok (.iconst 1, 1) := by decide +kernel
theorem dL_holds_146 : decode cL_holds 146 = .ok (.goto 19, 3) := by decide +kernel
theorem dL_holds_149 : decode cL_holds 149 = .ok (.iconst 0, 1) := by decide +kernel
theorem dL_holds_150 : decode cL_holds 150 = .ok (.goto 15, 3) := by decide +kernel
theorem dL_holds_153 : decode cL_holds 153 = .ok (.iload 7, 2) := by decide +kernel
theorem dL_holds_155 : decode cL_holds 155 = .ok (.iload 6, 2) := by decide +kernel
theorem dL_holds_157 : decode cL_holds 157 = .ok (.if_icmp .le 7, 3) := by decide +kernel
theorem dL_holds_160 : decode cL_holds 160 = .ok (.iconst 1, 1) := by decide +kernel
theorem dL_holds_161 : decode cL_holds 161 = .ok (.goto 4, 3) := by decide +kernel
theorem dL_holds_164 : decode cL_holds 164 = .ok (.iconst 0, 1) := by decide +kernel
theorem dL_holds_165 : decode cL_holds 165 = .ok (.istore_n 2, 1) := by decide +kernel
theorem dL_holds_166 : decode cL_holds 166 = .ok (.iload_n 2, 1) := by decide +kernel
theorem dL_holds_167 : decode cL_holds 167 = .ok (.ifCond .eq 51, 3) := by decide +kernel
theorem dL_holds_170 : decode cL_holds 170 = .ok (.iload 5, 2) := by decide +kernel
theorem dL_holds_172 : decode cL_holds 172 = .ok (.iconst 2, 1) := by decide +kernel
theorem dL_holds_173 : decode cL_holds 173 = .ok (.if_icmp .lt 41, 3) := by decide +kernel
theorem dL_holds_176 : decode cL_holds 176 = .ok (.iload 5, 2) := by decide +kernel
theorem dL_holds_178 : decode cL_holds 178 = .ok (.iconst 2, 1) := by decide +kernel
theorem dL_holds_179 : decode cL_holds 179 = .ok (.irem, 1) := by decide +kernel
theorem dL_holds_180 : decode cL_holds 180 = .ok (.ifCond .ne 20, 3) := by decide +kernel
theorem dL_holds_183 : decode cL_holds 183 = .ok (.iload 7, 2) := by decide +kernel
theorem dL_holds_185 : decode cL_holds 185 = .ok (.aload_n 0, 1) := by decide +kernel
theorem dL_holds_186 : decode cL_holds 186 = .ok (.iload 5, 2) := by decide +kernel
theorem dL_holds_188 : decode cL_holds 188 = .ok (.iconst 2, 1) := by decide +kernel
theorem dL_holds_189 : decode cL_holds 189 = .ok (.isub, 1) := by decide +kernel
theorem dL_holds_190 : decode cL_holds 190 = .ok (.iconst 0, 1) := by decide +kernel
theorem dL_holds_191 : decode cL_holds 191 = .ok (.invokevirtual 28, 3) := by decide +kernel
theorem dL_holds_194 : decode cL_holds 194 = .ok (.if_icmp .ge 24, 3) := by decide +kernel
theorem dL_holds_197 : decode cL_holds 197 = .ok (.goto 17, 3) := by decide +kernel
theorem dL_holds_200 : decode cL_holds 200 = .ok (.iload 7, 2) := by decide +kernel
theorem dL_holds_202 : decode cL_holds 202 = .ok (.aload_n 0, 1) := by decide +kernel
theorem dL_holds_203 : decode cL_holds 203 = .ok (.iload 5, 2) := by decide +kernel
theorem dL_holds_205 : decode cL_holds 205 = .ok (.iconst 2, 1) := by decide +kernel
theorem dL_holds_206 : decode cL_holds 206 = .ok (.isub, 1) := by decide +kernel
theorem dL_holds_207 : decode cL_holds 207 = .ok (.iconst 0, 1) := by decide +kernel
theorem dL_holds_208 : decode cL_holds 208 = .ok (.invokevirtual 28, 3) := by decide +kernel
theorem dL_holds_211 : decode cL_holds 211 = .ok (.if_icmp .le 7, 3) := by decide +kernel
theorem dL_holds_214 : decode cL_holds 214 = .ok (.iconst 1, 1) := by decide +kernel
theorem dL_holds_215 : decode cL_holds 215 = .ok (.goto 4, 3) := by decide +kernel
theorem dL_holds_218 : decode cL_holds 218 = .ok (.iconst 0, 1) := by decide +kernel
theorem dL_holds_219 : decode cL_holds 219 = .ok (.istore_n 2, 1) := by decide +kernel
theorem dL_holds_220 : decode cL_holds 220 = .ok (.iinc 5 1, 3) := by decide +kernel
theorem dL_holds_223 : decode cL_holds 223 = .ok (.goto (-123), 3) := by decide +kernel
theorem dL_holds_226 : decode cL_holds 226 = .ok (.aload_n 0, 1) := by decide +kernel
theorem dL_holds_227 : decode cL_holds 227 = .ok (.iconst 0, 1) := by decide +kernel
theorem dL_holds_228 : decode cL_holds 228 = .ok (.invokevirtual 9, 3) := by decide +kernel
theorem dL_holds_231 : decode cL_holds 231 = .ok (.istore 5, 2) := by decide +kernel
theorem dL_holds_233 : decode cL_holds 233 = .ok (.iload_n 2, 1) := by decide +kernel
theorem dL_holds_234 : decode cL_holds 234 = .ok (.ifCond .eq 47, 3) := by decide +kernel
theorem dL_holds_237 : decode cL_holds 237 = .ok (.iload_n 1, 1) := by decide +kernel
theorem dL_holds_238 : decode cL_holds 238 = .ok (.ifCond .eq 39, 3) := by decide +kernel
theorem dL_holds_241 : decode cL_holds 241 = .ok (.iload_n 1, 1) := by decide +kernel
theorem dL_holds_242 : decode cL_holds 242 = .ok (.iconst 2, 1) := by decide +kernel
theorem dL_holds_243 : decode cL_holds 243 = .ok (.irem, 1) := by decide +kernel
theorem dL_holds_244 : decode cL_holds 244 = .ok (.iconst 1, 1) := by decide +kernel
theorem dL_holds_245 : decode cL_holds 245 = .ok (.if_icmp .ne 19, 3) := by decide +kernel
theorem dL_holds_248 : decode cL_holds 248 = .ok (.iload 5, 2) := by decide +kernel
theorem dL_holds_250 : decode cL_holds 250 = .ok (.aload_n 0, 1) := by decide +kernel
theorem dL_holds_251 : decode cL_holds 251 = .ok (.iload_n 1, 1) := by decide +kernel
theorem dL_holds_252 : decode cL_holds 252 = .ok (.iconst 1, 1) := by decide +kernel
theorem dL_holds_253 : decode cL_holds 253 = .ok (.isub, 1) := by decide +kernel
theorem dL_holds_254 : decode cL_holds 254 = .ok (.iconst 0, 1) := by decide +kernel
theorem dL_holds_255 : decode cL_holds 255 = .ok (.invokevirtual 28, 3) := by decide +kernel
theorem dL_holds_258 : decode cL_holds 258 = .ok (.if_icmp .ge 23, 3) := by decide +kernel
theorem dL_holds_261 : decode cL_holds 261 = .ok (.goto 16, 3) := by decide +kernel
theorem dL_holds_264 : decode cL_holds 264 = .ok (.iload 5, 2) := by decide +kernel
theorem dL_holds_266 : decode cL_holds 266 = .ok (.aload_n 0, 1) := by decide +kernel
theorem dL_holds_267 : decode cL_holds 267 = .ok (.iload_n 1, 1) := by decide +kernel
theorem dL_holds_268 : decode cL_holds 268 = .ok (.iconst 1, 1) := by decide +kernel
theorem dL_holds_269 : decode cL_holds 269 = .ok (.isub, 1) := by decide +kernel
theorem dL_holds_270 : decode cL_holds 270 = .ok (.iconst 0, 1) := by decide +kernel
theorem dL_holds_271 : decode cL_holds 271 = .ok (.invokevirtual 28, 3) := by decide +kernel
theorem dL_holds_274 : decode cL_holds 274 = .ok (.if_icmp .le 7, 3) := by decide +kernel
theorem dL_holds_277 : decode cL_holds 277 = .ok (.iconst 1, 1) := by decide +kernel
theorem dL_holds_278 : decode cL_holds 278 = .ok (.goto 4, 3) := by decide +kernel
theorem dL_holds_281 : decode cL_holds 281 = .ok (.iconst 0, 1) := by decide +kernel
theorem dL_holds_282 : decode cL_holds 282 = .ok (.ireturn, 1) := by decide +kernel
theorem dL_bound_0 : decode cL_bound 0 = .ok (.iload_n 0, 1) := by decide +kernel
theorem dL_bound_1 : decode cL_bound 1 = .ok (.iload_n 1, 1) := by decide +kernel
theorem dL_bound_2 : decode cL_bound 2 = .ok (.if_icmp .ge 7, 3) := by decide +kernel
theorem dL_bound_5 : decode cL_bound 5 = .ok (.iload_n 1, 1) := by decide +kernel
theorem dL_bound_6 : decode cL_bound 6 = .ok (.goto 13, 3) := by decide +kernel
theorem dL_bound_9 : decode cL_bound 9 = .ok (.iload_n 0, 1) := by decide +kernel
theorem dL_bound_10 : decode cL_bound 10 = .ok (.iload_n 2, 1) := by decide +kernel
theorem dL_bound_11 : decode cL_bound 11 = .ok (.if_icmp .le 7, 3) := by decide +kernel
theorem dL_bound_14 : decode cL_bound 14 = .ok (.iload_n 2, 1) := by decide +kernel
theorem dL_bound_15 : decode cL_bound 15 = .ok (.goto 4, 3) := by decide +kernel
theorem dL_bound_18 : decode cL_bound 18 = .ok (.iload_n 0, 1) := by decide +kernel
theorem dL_bound_19 : decode cL_bound 19 = .ok (.ireturn, 1) := by decide +kernel
theorem dL_loop_0 : decode cL_loop 0 = .ok (.aload_n 0, 1) := by decide +kernel
theorem dL_loop_1 : decode cL_loop 1 = .ok (.iconst 0, 1) := by decide +kernel
theorem dL_loop_2 : decode cL_loop 2 = .ok (.invokevirtual 9, 3) := by decide +kernel
theorem dL_loop_5 : decode cL_loop 5 = .ok (.istore_n 2, 1) := by decide +kernel
theorem dL_loop_6 : decode cL_loop 6 = .ok (.aload_n 0, 1) := by decide +kernel
theorem dL_loop_7 : decode cL_loop 7 = .ok (.iconst 5, 1) := by decide +kernel
theorem dL_loop_8 : decode cL_loop 8 = .ok (.invokevirtual 9, 3) := by decide +kernel
theorem dL_loop_11 : decode cL_loop 11 = .ok (.istore_n 3, 1) := by decide +kernel
theorem dL_loop_12 : decode cL_loop 12 = .ok (.aload_n 0, 1) := by decide +kernel
theorem dL_loop_13 : decode cL_loop 13 = .ok (.bipush 6, 2) := by decide +kernel
theorem dL_loop_15 : decode cL_loop 15 = .ok (.invokevirtual 9, 3) := by decide +kernel
theorem dL_loop_18 : decode cL_loop 18 = .ok (.istore 4, 2) := by decide +kernel
theorem dL_loop_20 : decode cL_loop 20 = .ok (.aload_n 0, 1) := by decide +kernel
theorem dL_loop_21 : decode cL_loop 21 = .ok (.iconst 1, 1) := by decide +kernel
theorem dL_loop_22 : decode cL_loop 22 = .ok (.invokevirtual 9, 3) := by decide +kernel
theorem dL_loop_25 : decode cL_loop 25 = .ok (.istore 5, 2) := by decide +kernel
theorem dL_loop_27 : decode cL_loop 27 = .ok (.aload_n 0, 1) := by decide +kernel
theorem dL_loop_28 : decode cL_loop 28 = .ok (.invokevirtual 32, 3) := by decide +kernel
theorem dL_loop_31 : decode cL_loop 31 = .ok (.lstore 6, 2) := by decide +kernel
theorem dL_loop_33 : decode cL_loop 33 = .ok (.iconst 1, 1) := by decide +kernel
theorem dL_loop_34 : decode cL_loop 34 = .ok (.iload_n 1, 1) := by decide +kernel
theorem dL_loop_35 : decode cL_loop 35 = .ok (.bipush 60, 2) := by decide +kernel
theorem dL_loop_37 : decode cL_loop 37 = .ok (.irem, 1) := by decide +kernel
theorem dL_loop_38 : decode cL_loop 38 = .ok (.iadd, 1) := by decide +kernel
theorem dL_loop_39 : decode cL_loop 39 = .ok (.istore 8, 2) := by decide +kernel
theorem dL_loop_41 : decode cL_loop 41 = .ok (.iload 4, 2) := by decide +kernel
theorem dL_loop_43 : decode cL_loop 43 = .ok (.ifCond .lt 10, 3) := by decide +kernel
theorem dL_loop_46 : decode cL_loop 46 = .ok (.iload_n 2, 1) := by decide +kernel
theorem dL_loop_47 : decode cL_loop 47 = .ok (.iload 8, 2) := by decide +kernel
theorem dL_loop_49 : decode cL_loop 49 = .ok (.isub, 1) := by decide +kernel
theorem dL_loop_50 : decode cL_loop 50 = .ok (.goto 7, 3) := by decide +kernel
theorem dL_loop_53 : decode cL_loop 53 = .ok (.iload_n 2, 1) := by decide +kernel
theorem dL_loop_54 : decode cL_loop 54 = .ok (.iload 8, 2) := by decide +kernel
theorem dL_loop_56 : decode cL_loop 56 = .ok (.iadd, 1) := by decide +kernel
theorem dL_loop_57 : decode cL_loop 57 = .ok (.istore 9, 2) := by decide +kernel
theorem dL_loop_59 : decode cL_loop 59 = .ok (.iload_n 3, 1) := by decide +kernel
theorem dL_loop_60 : decode cL_loop 60 = .ok (.ifCond .ne 18, 3) := by decide +kernel
theorem dL_loop_63 : decode cL_loop 63 = .ok (.iload 4, 2) := by decide +kernel
theorem dL_loop_65 : decode cL_loop 65 = .ok (.ifCond .lt 7, 3) := by decide +kernel
theorem dL_loop_68 : decode cL_loop 68 = .ok (.iconst (-1), 1) := by decide +kernel
theorem dL_loop_69 : decode cL_loop 69 = .ok (.goto 17, 3) := by decide +kernel
theorem dL_loop_72 : decode cL_loop 72 = .ok (.sipush 2000, 3) := by decide +kernel
theorem dL_loop_75 : decode cL_loop 75 = .ok (.goto 11, 3) := by decide +kernel
theorem dL_loop_78 : decode cL_loop 78 = .ok (.aload_n 0, 1) := by decide +kernel
theorem dL_loop_79 : decode cL_loop 79 = .ok (.iload_n 3, 1) := by decide +kernel
theorem dL_loop_80 : decode cL_loop 80 = .ok (.iconst 1, 1) := by decide +kernel
theorem dL_loop_81 : decode cL_loop 81 = .ok (.isub, 1) := by decide +kernel
theorem dL_loop_82 : decode cL_loop 82 = .ok (.iconst 0, 1) := by decide +kernel
theorem dL_loop_83 : decode cL_loop 83 = .ok (.invokevirtual 28, 3) := by decide +kernel
theorem dL_loop_86 : decode cL_loop 86 = .ok (.istore 10, 2) := by decide +kernel
theorem dL_loop_88 : decode cL_loop 88 = .ok (.iload 4, 2) := by decide +kernel
theorem dL_loop_90 : decode cL_loop 90 = .ok (.ifCond .eq 46, 3) := by decide +kernel
theorem dL_loop_93 : decode cL_loop 93 = .ok (.iload 9, 2) := by decide +kernel
theorem dL_loop_95 : decode cL_loop 95 = .ok (.ifCond .lt 41, 3) := by decide +kernel
theorem dL_loop_98 : decode cL_loop 98 = .ok (.iload 9, 2) := by decide +kernel
theorem dL_loop_100 : decode cL_loop 100 = .ok (.sipush 1000, 3) := by decide +kernel
theorem dL_loop_103 : decode cL_loop 103 = .ok (.if_icmp .gt 33, 3) := by decide +kernel
theorem dL_loop_106 : decode cL_loop 106 = .ok (.iload 4, 2) := by decide +kernel
theorem dL_loop_108 : decode cL_loop 108 = .ok (.ifCond .le 17, 3) := by decide +kernel
theorem dL_loop_111 : decode cL_loop 111 = .ok (.iload_n 3, 1) := by decide +kernel
theorem dL_loop_112 : decode cL_loop 112 = .ok (.ifCond .eq 20, 3) := by decide +kernel
theorem dL_loop_115 : decode cL_loop 115 = .ok (.iload 9, 2) := by decide +kernel
theorem dL_loop_117 : decode cL_loop 117 = .ok (.iload 10, 2) := by decide +kernel
theorem dL_loop_119 : decode cL_loop 119 = .ok (.if_icmp .le 17, 3) := by decide +kernel
theorem dL_loop_122 : decode cL_loop 122 = .ok (.goto 10, 3) := by decide +kernel
theorem dL_loop_125 : decode cL_loop 125 = .ok (.iload 9, 2) := by decide +kernel
theorem dL_loop_127 : decode cL_loop 127 = .ok (.iload 10, 2) := by decide +kernel
theorem dL_loop_129 : decode cL_loop 129 = .ok (.if_icmp .ge 7, 3) := by decide +kernel
theorem dL_loop_132 : decode cL_loop 132 = .ok (.iconst 1, 1) := by decide +kernel
theorem dL_loop_133 : decode cL_loop 133 = .ok (.goto 4, 3) := by decide +kernel
theorem dL_loop_136 : decode cL_loop 136 = .ok (.iconst 0, 1) := by decide +kernel
theorem dL_loop_137 : decode cL_loop 137 = .ok (.istore 11, 2) := by decide +kernel
theorem dL_loop_139 : decode cL_loop 139 = .ok (.iload 11, 2) := by decide +kernel
theorem dL_loop_141 : decode cL_loop 141 = .ok (.ifCond .ne 5, 3) := by decide +kernel
theorem dL_loop_144 : decode cL_loop 144 = .ok (.iconst 1, 1) := by decide +kernel
theorem dL_loop_145 : decode cL_loop 145 = .ok (.ireturn, 1) := by decide +kernel
theorem dL_loop_146 : decode cL_loop 146 = .ok (.aload_n 0, 1) := by decide +kernel
theorem dL_loop_147 : decode cL_loop 147 = .ok (.iload 9, 2) := by decide +kernel
theorem dL_loop_149 : decode cL_loop 149 = .ok (.invokevirtual 36, 3) := by decide +kernel
theorem dL_loop_152 : decode cL_loop 152 = .ok (.ifCond .lt 46, 3) := by decide +kernel
theorem dL_loop_155 : decode cL_loop 155 = .ok (.aload_n 0, 1) := by decide +kernel
theorem dL_loop_156 : decode cL_loop 156 = .ok (.iconst 5, 1) := by decide +kernel
theorem dL_loop_157 : decode cL_loop 157 = .ok (.invokevirtual 9, 3) := by decide +kernel
theorem dL_loop_160 : decode cL_loop 160 = .ok (.iload_n 3, 1) := by decide +kernel
theorem dL_loop_161 : decode cL_loop 161 = .ok (.iconst 1, 1) := by decide +kernel
theorem dL_loop_162 : decode cL_loop 162 = .ok (.iadd, 1) := by decide +kernel
theorem dL_loop_163 : decode cL_loop 163 = .ok (.if_icmp .ne 35, 3) := by decide +kernel
theorem dL_loop_166 : decode cL_loop 166 = .ok (.aload_n 0, 1) := by decide +kernel
theorem dL_loop_167 : decode cL_loop 167 = .ok (.iload_n 3, 1) := by decide +kernel
theorem dL_loop_168 : decode cL_loop 168 = .ok (.iconst 0, 1) := by decide +kernel
theorem dL_loop_169 : decode cL_loop 169 = .ok (.invokevirtual 28, 3) := by decide +kernel
theorem dL_loop_172 : decode cL_loop 172 = .ok (.iload_n 2, 1) := by decide +kernel
theorem dL_loop_173 : decode cL_loop 173 = .ok (.if_icmp .ne 25, 3) := by decide +kernel
theorem dL_loop_176 : decode cL_loop 176 = .ok (.aload_n 0, 1) := by decide +kernel
theorem dL_loop_177 : decode cL_loop 177 = .ok (.iload_n 3, 1) := by decide +kernel
theorem dL_loop_178 : decode cL_loop 178 = .ok (.iconst 1, 1) := by decide +kernel
theorem dL_loop_179 : decode cL_loop 179 = .ok (.invokevirtual 28, 3) := by decide +kernel
theorem dL_loop_182 : decode cL_loop 182 = .ok (.iload 5, 2) := by decide +kernel
theorem dL_loop_184 : decode cL_loop 184 = .ok (.if_icmp .ne 14, 3) := by decide +kernel
theorem dL_loop_187 : decode cL_loop 187 = .ok (.aload_n 0, 1) := by decide +kernel
theorem dL_loop_188 : decode cL_loop 188 = .ok (.invokestatic 39, 3) := by decide +kernel
theorem dL_loop_191 : decode cL_loop 191 = .ok (.ifCond .eq 7, 3) := by decide +kernel
theorem dL_loop_194 : decode cL_loop 194 = .ok (.iconst 1, 1) := by decide +kernel
theorem dL_loop_195 : decode cL_loop 195 = .ok (.goto 4, 3) := by decide +kernel
theorem dL_loop_198 : decode cL_loop 198 = .ok (.iconst 0, 1) := by decide +kernel
theorem dL_loop_199 : decode cL_loop 199 = .ok (.istore 12, 2) := by decide +kernel
theorem dL_loop_201 : decode cL_loop 201 = .ok (.iload 12, 2) := by decide +kernel
theorem dL_loop_203 : decode cL_loop 203 = .ok (.ifCond .eq 39, 3) := by decide +kernel
theorem dL_loop_206 : decode cL_loop 206 = .ok (.aload_n 0, 1) := by decide +kernel
theorem dL_loop_207 : decode cL_loop 207 = .ok (.iload_n 2, 1) := by decide +kernel
theorem dL_loop_208 : decode cL_loop 208 = .ok (.invokevirtual 36, 3) := by decide +kernel
theorem dL_loop_211 : decode cL_loop 211 = .ok (.ifCond .lt 31, 3) := by decide +kernel
theorem dL_loop_214 : decode cL_loop 214 = .ok (.aload_n 0, 1) := by decide +kernel
theorem dL_loop_215 : decode cL_loop 215 = .ok (.iconst 1, 1) := by decide +kernel
theorem dL_loop_216 : decode cL_loop 216 = .ok (.invokevirtual 9, 3) := by decide +kernel
theorem dL_loop_219 : decode cL_loop 219 = .ok (.iload 5, 2) := by decide +kernel
theorem dL_loop_221 : decode cL_loop 221 = .ok (.isub, 1) := by decide +kernel
theorem dL_loop_222 : decode cL_loop 222 = .ok (.iconst 1, 1) := by decide +kernel
theorem dL_loop_223 : decode cL_loop 223 = .ok (.if_icmp .gt 19, 3) := by decide +kernel
theorem dL_loop_226 : decode cL_loop 226 = .ok (.iload 5, 2) := by decide +kernel
theorem dL_loop_228 : decode cL_loop 228 = .ok (.aload_n 0, 1) := by decide +kernel
theorem dL_loop_229 : decode cL_loop 229 = .ok (.iconst 1, 1) := by decide +kernel
theorem dL_loop_230 : decode cL_loop 230 = .ok (.invokevirtual 9, 3) := by decide +kernel
theorem dL_loop_233 : decode cL_loop 233 = .ok (.isub, 1) := by decide +kernel
theorem dL_loop_234 : decode cL_loop 234 = .ok (.iconst 1, 1) := by decide +kernel
theorem dL_loop_235 : decode cL_loop 235 = .ok (.if_icmp .gt 7, 3) := by decide +kernel
theorem dL_loop_238 : decode cL_loop 238 = .ok (.iconst 1, 1) := by decide +kernel
theorem dL_loop_239 : decode cL_loop 239 = .ok (.goto 4, 3) := by decide +kernel
theorem dL_loop_242 : decode cL_loop 242 = .ok (.iconst 0, 1) := by decide +kernel
theorem dL_loop_243 : decode cL_loop 243 = .ok (.istore 12, 2) := by decide +kernel
theorem dL_loop_245 : decode cL_loop 245 = .ok (.iload 12, 2) := by decide +kernel
theorem dL_loop_247 : decode cL_loop 247 = .ok (.ifCond .eq 59, 3) := by decide +kernel
theorem dL_loop_250 : decode cL_loop 250 = .ok (.aload_n 0, 1) := by decide +kernel
theorem dL_loop_251 : decode cL_loop 251 = .ok (.invokevirtual 43, 3) := by decide +kernel
theorem dL_loop_254 : decode cL_loop 254 = .ok (.ifCond .lt 52, 3) := by decide +kernel
theorem dL_loop_257 : decode cL_loop 257 = .ok (.aload_n 0, 1) := by decide +kernel
theorem dL_loop_258 : decode cL_loop 258 = .ok (.invokevirtual 43, 3) := by decide +kernel
theorem dL_loop_261 : decode cL_loop 261 = .ok (.ifCond .lt 45, 3) := by decide +kernel
theorem dL_loop_264 : decode cL_loop 264 = .ok (.aload_n 0, 1) := by decide +kernel
theorem dL_loop_265 : decode cL_loop 265 = .ok (.iconst 0, 1) := by decide +kernel
theorem dL_loop_266 : decode cL_loop 266 = .ok (.invokevirtual 9, 3) := by decide +kernel
theorem dL_loop_269 : decode cL_loop 269 = .ok (.iload_n 2, 1) := by decide +kernel
theorem dL_loop_270 : decode cL_loop 270 = .ok (.if_icmp .ne 36, 3) := by decide +kernel
theorem dL_loop_273 : decode cL_loop 273 = .ok (.aload_n 0, 1) := by decide +kernel
theorem dL_loop_274 : decode cL_loop 274 = .ok (.iconst 5, 1) := by decide +kernel
theorem dL_loop_275 : decode cL_loop 275 = .ok (.invokevirtual 9, 3) := by decide +kernel
theorem dL_loop_278 : decode cL_loop 278 = .ok (.iload_n 3, 1) := by decide +kernel
theorem dL_loop_279 : decode cL_loop 279 = .ok (.if_icmp .ne 27, 3) := by decide +kernel
theorem dL_loop_282 : decode cL_loop 282 = .ok (.aload_n 0, 1) := by decide +kernel
theorem dL_loop_283 : decode cL_loop 283 = .ok (.iconst 1, 1) := by decide +kernel
theorem dL_loop_284 : decode cL_loop 284 = .ok (.invokevirtual 9, 3) := by decide +kernel
theorem dL_loop_287 : decode cL_loop 287 = .ok (.iload 5, 2) := by decide +kernel
theorem dL_loop_289 : decode cL_loop 289 = .ok (.if_icmp .ne 17, 3) := by decide +kernel
theorem dL_loop_292 : decode cL_loop 292 = .ok (.aload_n 0, 1) := by decide +kernel
theorem dL_loop_293 : decode cL_loop 293 = .ok (.invokevirtual 32, 3) := by decide +kernel
theorem dL_loop_296 : decode cL_loop 296 = .ok (.lload 6, 2) := by decide +kernel
theorem dL_loop_298 : decode cL_loop 298 = .ok (.lcmp, 1) := by decide +kernel
theorem dL_loop_299 : decode cL_loop 299 = .ok (.ifCond .ne 7, 3) := by decide +kernel
theorem dL_loop_302 : decode cL_loop 302 = .ok (.iconst 1, 1) := by decide +kernel
theorem dL_loop_303 : decode cL_loop 303 = .ok (.goto 4, 3) := by decide +kernel
theorem dL_loop_306 : decode cL_loop 306 = .ok (.iconst 0, 1) := by decide +kernel
theorem dL_loop_307 : decode cL_loop 307 = .ok (.ireturn, 1) := by decide +kernel
theorem dL_law_0 : decode cL_law 0 = .ok (.new 10, 3) := by decide +kernel
theorem dL_law_3 : decode cL_law 3 = .ok (.dup, 1) := by decide +kernel
theorem dL_law_4 : decode cL_law 4 = .ok (.invokespecial 46, 3) := by decide +kernel
theorem dL_law_7 : decode cL_law 7 = .ok (.astore_n 1, 1) := by decide +kernel
theorem dL_law_8 : decode cL_law 8 = .ok (.aload_n 1, 1) := by decide +kernel
theorem dL_law_9 : decode cL_law 9 = .ok (.invokestatic 39, 3) := by decide +kernel
theorem dL_law_12 : decode cL_law 12 = .ok (.ifCond .eq 58, 3) := by decide +kernel
theorem dL_law_15 : decode cL_law 15 = .ok (.aload_n 1, 1) := by decide +kernel
theorem dL_law_16 : decode cL_law 16 = .ok (.bipush 100, 2) := by decide +kernel
theorem dL_law_18 : decode cL_law 18 = .ok (.aload_n 0, 1) := by decide +kernel
theorem dL_law_19 : decode cL_law 19 = .ok (.iconst 0, 1) := by decide +kernel
theorem dL_law_20 : decode cL_law 20 = .ok (.invokestatic 47, 3) := by decide +kernel
theorem dL_law_23 : decode cL_law 23 = .ok (.sipush 800, 3) := by decide +kernel
theorem dL_law_26 : decode cL_law 26 = .ok (.irem, 1) := by decide +kernel
theorem dL_law_27 : decode cL_law 27 = .ok (.iadd, 1) := by decide +kernel
theorem dL_law_28 : decode cL_law 28 = .ok (.sipush 2000, 3) := by decide +kernel
theorem dL_law_31 : decode cL_law 31 = .ok (.aload_n 0, 1) := by decide +kernel
theorem dL_law_32 : decode cL_law 32 = .ok (.iconst 1, 1) := by decide +kernel
theorem dL_law_33 : decode cL_law 33 = .ok (.invokestatic 47, 3) := by decide +kernel
theorem dL_law_36 : decode cL_law 36 = .ok (.sipush 6000, 3) := by decide +kernel
theorem dL_law_39 : decode cL_law 39 = .ok (.irem, 1) := by decide +kernel
theorem dL_law_40 : decode cL_law 40 = .ok (.iadd, 1) := by decide +kernel
theorem dL_law_41 : decode cL_law 41 = .ok (.invokevirtual 51, 3) := by decide +kernel
theorem dL_law_44 : decode cL_law 44 = .ok (.iconst 3, 1) := by decide +kernel
theorem dL_law_45 : decode cL_law 45 = .ok (.if_icmp .ne 25, 3) := by decide +kernel
theorem dL_law_48 : decode cL_law 48 = .ok (.aload_n 1, 1) := by decide +kernel
theorem dL_law_49 : decode cL_law 49 = .ok (.iconst 0, 1) := by decide +kernel
theorem dL_law_50 : decode cL_law 50 = .ok (.aload_n 0, 1) := by decide +kernel
theorem dL_law_51 : decode cL_law 51 = .ok (.iconst 2, 1) := by decide +kernel
theorem dL_law_52 : decode cL_law 52 = .ok (.invokestatic 47, 3) := by decide +kernel
theorem dL_law_55 : decode cL_law 55 = .ok (.sipush 200, 3) := by decide +kernel
theorem dL_law_58 : decode cL_law 58 = .ok (.irem, 1) := by decide +kernel
theorem dL_law_59 : decode cL_law 59 = .ok (.invokevirtual 54, 3) := by decide +kernel
theorem dL_law_62 : decode cL_law 62 = .ok (.iconst 5, 1) := by decide +kernel
theorem dL_law_63 : decode cL_law 63 = .ok (.if_icmp .ne 7, 3) := by decide +kernel
theorem dL_law_66 : decode cL_law 66 = .ok (.iconst 1, 1) := by decide +kernel
theorem dL_law_67 : decode cL_law 67 = .ok (.goto 4, 3) := by decide +kernel
theorem dL_law_70 : decode cL_law 70 = .ok (.iconst 0, 1) := by decide +kernel
theorem dL_law_71 : decode cL_law 71 = .ok (.istore_n 2, 1) := by decide +kernel
theorem dL_law_72 : decode cL_law 72 = .ok (.iconst 0, 1) := by decide +kernel
theorem dL_law_73 : decode cL_law 73 = .ok (.istore_n 3, 1) := by decide +kernel
theorem dL_law_74 : decode cL_law 74 = .ok (.iconst 0, 1) := by decide +kernel
theorem dL_law_75 : decode cL_law 75 = .ok (.istore 4, 2) := by decide +kernel
theorem dL_law_77 : decode cL_law 77 = .ok (.iload 4, 2) := by decide +kernel
theorem dL_law_79 : decode cL_law 79 = .ok (.bipush 6, 2) := by decide +kernel
theorem dL_law_81 : decode cL_law 81 = .ok (.if_icmp .ge 71, 3) := by decide +kernel
theorem dL_law_84 : decode cL_law 84 = .ok (.iload_n 2, 1) := by decide +kernel
theorem dL_law_85 : decode cL_law 85 = .ok (.ifCond .eq 67, 3) := by decide +kernel
theorem dL_law_88 : decode cL_law 88 = .ok (.iload_n 3, 1) := by decide +kernel
theorem dL_law_89 : decode cL_law 89 = .ok (.aload_n 0, 1) := by decide +kernel
theorem dL_law_90 : decode cL_law 90 = .ok (.iconst 3, 1) := by decide +kernel
theorem dL_law_91 : decode cL_law 91 = .ok (.iload 4, 2) := by decide +kernel
theorem dL_law_93 : decode cL_law 93 = .ok (.iadd, 1) := by decide +kernel
theorem dL_law_94 : decode cL_law 94 = .ok (.invokestatic 47, 3) := by decide +kernel
theorem dL_law_97 : decode cL_law 97 = .ok (.sipush 150, 3) := by decide +kernel
theorem dL_law_100 : decode cL_law 100 = .ok (.irem, 1) := by decide +kernel
theorem dL_law_101 : decode cL_law 101 = .ok (.iadd, 1) := by decide +kernel
theorem dL_law_102 : decode cL_law 102 = .ok (.istore_n 3, 1) := by decide +kernel
theorem dL_law_103 : decode cL_law 103 = .ok (.aload_n 1, 1) := by decide +kernel
theorem dL_law_104 : decode cL_law 104 = .ok (.iload_n 3, 1) := by decide +kernel
theorem dL_law_105 : decode cL_law 105 = .ok (.invokevirtual 36, 3) := by decide +kernel
theorem dL_law_108 : decode cL_law 108 = .ok (.ifCond .lt 36, 3) := by decide +kernel
theorem dL_law_111 : decode cL_law 111 = .ok (.aload_n 1, 1) := by decide +kernel
theorem dL_law_112 : decode cL_law 112 = .ok (.iconst 1, 1) := by decide +kernel
theorem dL_law_113 : decode cL_law 113 = .ok (.invokevirtual 9, 3) := by decide +kernel
theorem dL_law_116 : decode cL_law 116 = .ok (.aload_n 1, 1) := by decide +kernel
theorem dL_law_117 : decode cL_law 117 = .ok (.iconst 0, 1) := by decide +kernel
theorem dL_law_118 : decode cL_law 118 = .ok (.iload_n 3, 1) := by decide +kernel
theorem dL_law_119 : decode cL_law 119 = .ok (.invokevirtual 57, 3) := by decide +kernel
theorem dL_law_122 : decode cL_law 122 = .ok (.if_icmp .ne 22, 3) := by decide +kernel
theorem dL_law_125 : decode cL_law 125 = .ok (.aload_n 1, 1) := by decide +kernel
theorem dL_law_126 : decode cL_law 126 = .ok (.iconst 5, 1) := by decide +kernel
theorem dL_law_127 : decode cL_law 127 = .ok (.invokevirtual 9, 3) := by decide +kernel
theorem dL_law_130 : decode cL_law 130 = .ok (.ifCond .ne 14, 3) := by decide +kernel
theorem dL_law_133 : decode cL_law 133 = .ok (.aload_n 1, 1) := by decide +kernel
theorem dL_law_134 : decode cL_law 134 = .ok (.invokestatic 39, 3) := by decide +kernel
theorem dL_law_137 : decode cL_law 137 = .ok (.ifCond .eq 7, 3) := by decide +kernel
theorem dL_law_140 : decode cL_law 140 = .ok (.iconst 1, 1) := by decide +kernel
theorem dL_law_141 : decode cL_law 141 = .ok (.goto 4, 3) := by decide +kernel
theorem dL_law_144 : decode cL_law 144 = .ok (.iconst 0, 1) := by decide +kernel
theorem dL_law_145 : decode cL_law 145 = .ok (.istore_n 2, 1) := by decide +kernel
theorem dL_law_146 : decode cL_law 146 = .ok (.iinc 4 1, 3) := by decide +kernel
theorem dL_law_149 : decode cL_law 149 = .ok (.goto (-72), 3) := by decide +kernel
theorem dL_law_152 : decode cL_law 152 = .ok (.iconst 0, 1) := by decide +kernel
theorem dL_law_153 : decode cL_law 153 = .ok (.istore 4, 2) := by decide +kernel
theorem dL_law_155 : decode cL_law 155 = .ok (.iload 4, 2) := by decide +kernel
theorem dL_law_157 : decode cL_law 157 = .ok (.bipush 24, 2) := by decide +kernel
theorem dL_law_159 : decode cL_law 159 = .ok (.if_icmp .ge 317, 3) := by decide +kernel
theorem dL_law_162 : decode cL_law 162 = .ok (.iload_n 2, 1) := by decide +kernel
theorem dL_law_163 : decode cL_law 163 = .ok (.ifCond .eq 313, 3) := by decide +kernel
theorem dL_law_166 : decode cL_law 166 = .ok (.aload_n 0, 1) := by decide +kernel
theorem dL_law_167 : decode cL_law 167 = .ok (.bipush 9, 2) := by decide +kernel
theorem dL_law_169 : decode cL_law 169 = .ok (.iload 4, 2) := by decide +kernel
theorem dL_law_171 : decode cL_law 171 = .ok (.iadd, 1) := by decide +kernel
theorem dL_law_172 : decode cL_law 172 = .ok (.invokestatic 47, 3) := by decide +kernel
theorem dL_law_175 : decode cL_law 175 = .ok (.istore 5, 2) := by decide +kernel
theorem dL_law_177 : decode cL_law 177 = .ok (.iload 5, 2) := by decide +kernel
theorem dL_law_179 : decode cL_law 179 = .ok (.sipush 1001, 3) := by decide +kernel
theorem dL_law_182 : decode cL_law 182 = .ok (.irem, 1) := by decide +kernel
theorem dL_law_183 : decode cL_law 183 = .ok (.istore 6, 2) := by decide +kernel
theorem dL_law_185 : decode cL_law 185 = .ok (.aload_n 1, 1) := by decide +kernel
theorem dL_law_186 : decode cL_law 186 = .ok (.iconst 1, 1) := by decide +kernel
theorem dL_law_187 : decode cL_law 187 = .ok (.invokevirtual 9, 3) := by decide +kernel
theorem dL_law_190 : decode cL_law 190 = .ok (.istore 7, 2) := by decide +kernel
theorem dL_law_192 : decode cL_law 192 = .ok (.aload_n 1, 1) := by decide +kernel
theorem dL_law_193 : decode cL_law 193 = .ok (.iconst 0, 1) := by decide +kernel
theorem dL_law_194 : decode cL_law 194 = .ok (.invokevirtual 9, 3) := by decide +kernel
theorem dL_law_197 : decode cL_law 197 = .ok (.istore 8, 2) := by decide +kernel
theorem dL_law_199 : decode cL_law 199 = .ok (.aload_n 1, 1) := by decide +kernel
theorem dL_law_200 : decode cL_law 200 = .ok (.invokevirtual 32, 3) := by decide +kernel
theorem dL_law_203 : decode cL_law 203 = .ok (.lstore 9, 2) := by decide +kernel
theorem dL_law_205 : decode cL_law 205 = .ok (.aload_n 1, 1) := by decide +kernel
theorem dL_law_206 : decode cL_law 206 = .ok (.iload 6, 2) := by decide +kernel
theorem dL_law_208 : decode cL_law 208 = .ok (.invokevirtual 36, 3) := by decide +kernel
theorem dL_law_211 : decode cL_law 211 = .ok (.ifCond .lt 102, 3) := by decide +kernel
theorem dL_law_214 : decode cL_law 214 = .ok (.aload_n 1, 1) := by decide +kernel
theorem dL_law_215 : decode cL_law 215 = .ok (.iconst 0, 1) := by decide +kernel
theorem dL_law_216 : decode cL_law 216 = .ok (.invokevirtual 9, 3) := by decide +kernel
theorem dL_law_219 : decode cL_law 219 = .ok (.iload 6, 2) := by decide +kernel
theorem dL_law_221 : decode cL_law 221 = .ok (.if_icmp .ne 92, 3) := by decide +kernel
theorem dL_law_224 : decode cL_law 224 = .ok (.iload 6, 2) := by decide +kernel
theorem dL_law_226 : decode cL_law 226 = .ok (.iload 8, 2) := by decide +kernel
theorem dL_law_228 : decode cL_law 228 = .ok (.if_icmp .le 15, 3) := by decide +kernel
theorem dL_law_231 : decode cL_law 231 = .ok (.aload_n 1, 1) := by decide +kernel
theorem dL_law_232 : decode cL_law 232 = .ok (.iconst 1, 1) := by decide +kernel
theorem dL_law_233 : decode cL_law 233 = .ok (.invokevirtual 9, 3) := by decide +kernel
theorem dL_law_236 : decode cL_law 236 = .ok (.iload 7, 2) := by decide +kernel
theorem dL_law_238 : decode cL_law 238 = .ok (.iconst 1, 1) := by decide +kernel
theorem dL_law_239 : decode cL_law 239 = .ok (.isub, 1) := by decide +kernel
theorem dL_law_240 : decode cL_law 240 = .ok (.if_icmp .lt 73, 3) := by decide +kernel
theorem dL_law_243 : decode cL_law 243 = .ok (.iload 6, 2) := by decide +kernel
theorem dL_law_245 : decode cL_law 245 = .ok (.iload 8, 2) := by decide +kernel
theorem dL_law_247 : decode cL_law 247 = .ok (.if_icmp .ge 15, 3) := by decide +kernel
theorem dL_law_250 : decode cL_law 250 = .ok (.aload_n 1, 1) := by decide +kernel
theorem dL_law_251 : decode cL_law 251 = .ok (.iconst 1, 1) := by decide +kernel
theorem dL_law_252 : decode cL_law 252 = .ok (.invokevirtual 9, 3) := by decide +kernel
theorem dL_law_255 : decode cL_law 255 = .ok (.iload 7, 2) := by decide +kernel
theorem dL_law_257 : decode cL_law 257 = .ok (.iconst 1, 1) := by decide +kernel
theorem dL_law_258 : decode cL_law 258 = .ok (.iadd, 1) := by decide +kernel
theorem dL_law_259 : decode cL_law 259 = .ok (.if_icmp .gt 54, 3) := by decide +kernel
theorem dL_law_262 : decode cL_law 262 = .ok (.aload_n 1, 1) := by decide +kernel
theorem dL_law_263 : decode cL_law 263 = .ok (.invokevirtual 32, 3) := by decide +kernel
theorem dL_law_266 : decode cL_law 266 = .ok (.lload 9, 2) := by decide +kernel
theorem dL_law_268 : decode cL_law 268 = .ok (.iload 8, 2) := by decide +kernel
theorem dL_law_270 : decode cL_law 270 = .ok (.iload 6, 2) := by decide +kernel
theorem dL_law_272 : decode cL_law 272 = .ok (.iadd, 1) := by decide +kernel
theorem dL_law_273 : decode cL_law 273 = .ok (.i2l, 1) := by decide +kernel
theorem dL_law_274 : decode cL_law 274 = .ok (.aload_n 1, 1) := by decide +kernel
theorem dL_law_275 : decode cL_law 275 = .ok (.iconst 1, 1) := by decide +kernel
theorem dL_law_276 : decode cL_law 276 = .ok (.invokevirtual 9, 3) := by decide +kernel
theorem dL_law_279 : decode cL_law 279 = .ok (.iload 7, 2) := by decide +kernel
theorem dL_law_281 : decode cL_law 281 = .ok (.isub, 1) := by decide +kernel
theorem dL_law_282 : decode cL_law 282 = .ok (.i2l, 1) := by decide +kernel
theorem dL_law_283 : decode cL_law 283 = .ok (.lmul, 1) := by decide +kernel
theorem dL_law_284 : decode cL_law 284 = .ok (.ladd, 1) := by decide +kernel
theorem dL_law_285 : decode cL_law 285 = .ok (.lcmp, 1) := by decide +kernel
theorem dL_law_286 : decode cL_law 286 = .ok (.ifCond .ne 27, 3) := by decide +kernel
theorem dL_law_289 : decode cL_law 289 = .ok (.aload_n 1, 1) := by decide +kernel
theorem dL_law_290 : decode cL_law 290 = .ok (.invokestatic 39, 3) := by decide +kernel
theorem dL_law_293 : decode cL_law 293 = .ok (.ifCond .eq 20, 3) := by decide +kernel
theorem dL_law_296 : decode cL_law 296 = .ok (.aload_n 1, 1) := by decide +kernel
theorem dL_law_297 : decode cL_law 297 = .ok (.iload 5, 2) := by decide +kernel
theorem dL_law_299 : decode cL_law 299 = .ok (.sipush 1001, 3) := by decide +kernel
theorem dL_law_302 : decode cL_law 302 = .ok (.idiv, 1) := by decide +kernel
theorem dL_law_303 : decode cL_law 303 = .ok (.invokestatic 60, 3) := by decide +kernel
theorem dL_law_306 : decode cL_law 306 = .ok (.ifCond .eq 7, 3) := by decide +kernel
theorem dL_law_309 : decode cL_law 309 = .ok (.iconst 1, 1) := by decide +kernel
theorem dL_law_310 : decode cL_law 310 = .ok (.goto 4, 3) := by decide +kernel
theorem dL_law_313 : decode cL_law 313 = .ok (.iconst 0, 1) := by decide +kernel
theorem dL_law_314 : decode cL_law 314 = .ok (.istore_n 2, 1) := by decide +kernel
theorem dL_law_315 : decode cL_law 315 = .ok (.iload_n 2, 1) := by decide +kernel
theorem dL_law_316 : decode cL_law 316 = .ok (.ifCond .eq 154, 3) := by decide +kernel
theorem dL_law_319 : decode cL_law 319 = .ok (.iload 5, 2) := by decide +kernel
theorem dL_law_321 : decode cL_law 321 = .ok (.iconst 5, 1) := by decide +kernel
theorem dL_law_322 : decode cL_law 322 = .ok (.irem, 1) := by decide +kernel
theorem dL_law_323 : decode cL_law 323 = .ok (.ifCond .ne 147, 3) := by decide +kernel
theorem dL_law_326 : decode cL_law 326 = .ok (.aload_n 1, 1) := by decide +kernel
theorem dL_law_327 : decode cL_law 327 = .ok (.iconst 2, 1) := by decide +kernel
theorem dL_law_328 : decode cL_law 328 = .ok (.invokevirtual 9, 3) := by decide +kernel
theorem dL_law_331 : decode cL_law 331 = .ok (.istore 11, 2) := by decide +kernel
theorem dL_law_333 : decode cL_law 333 = .ok (.iconst 1, 1) := by decide +kernel
theorem dL_law_334 : decode cL_law 334 = .ok (.iload 5, 2) := by decide +kernel
theorem dL_law_336 : decode cL_law 336 = .ok (.bipush 100, 2) := by decide +kernel
theorem dL_law_338 : decode cL_law 338 = .ok (.irem, 1) := by decide +kernel
theorem dL_law_339 : decode cL_law 339 = .ok (.iadd, 1) := by decide +kernel
theorem dL_law_340 : decode cL_law 340 = .ok (.istore 12, 2) := by decide +kernel
theorem dL_law_342 : decode cL_law 342 = .ok (.aload_n 1, 1) := by decide +kernel
theorem dL_law_343 : decode cL_law 343 = .ok (.iconst 0, 1) := by decide +kernel
theorem dL_law_344 : decode cL_law 344 = .ok (.invokevirtual 9, 3) := by decide +kernel
theorem dL_law_347 : decode cL_law 347 = .ok (.aload_n 1, 1) := by decide +kernel
theorem dL_law_348 : decode cL_law 348 = .ok (.bipush 14, 2) := by decide +kernel
theorem dL_law_350 : decode cL_law 350 = .ok (.invokevirtual 9, 3) := by decide +kernel
theorem dL_law_353 : decode cL_law 353 = .ok (.imul, 1) := by decide +kernel
theorem dL_law_354 : decode cL_law 354 = .ok (.bipush 100, 2) := by decide +kernel
theorem dL_law_356 : decode cL_law 356 = .ok (.idiv, 1) := by decide +kernel
theorem dL_law_357 : decode cL_law 357 = .ok (.istore 13, 2) := by decide +kernel
theorem dL_law_359 : decode cL_law 359 = .ok (.aload_n 1, 1) := by decide +kernel
theorem dL_law_360 : decode cL_law 360 = .ok (.iload 12, 2) := by decide +kernel
theorem dL_law_362 : decode cL_law 362 = .ok (.invokevirtual 64, 3) := by decide +kernel
theorem dL_law_365 : decode cL_law 365 = .ok (.istore 14, 2) := by decide +kernel
theorem dL_law_367 : decode cL_law 367 = .ok (.iload 13, 2) := by decide +kernel
theorem dL_law_369 : decode cL_law 369 = .ok (.iload 14, 2) := by decide +kernel
theorem dL_law_371 : decode cL_law 371 = .ok (.if_icmp .le 11, 3) := by decide +kernel
theorem dL_law_374 : decode cL_law 374 = .ok (.iload 13, 2) := by decide +kernel
theorem dL_law_376 : decode cL_law 376 = .ok (.iload 14, 2) := by decide +kernel
theorem dL_law_378 : decode cL_law 378 = .ok (.isub, 1) := by decide +kernel
theorem dL_law_379 : decode cL_law 379 = .ok (.goto 8, 3) := by decide +kernel
theorem dL_law_382 : decode cL_law 382 = .ok (.iload 14, 2) := by decide +kernel
theorem dL_law_384 : decode cL_law 384 = .ok (.iload 13, 2) := by decide +kernel
theorem dL_law_386 : decode cL_law 386 = .ok (.isub, 1) := by decide +kernel
theorem dL_law_387 : decode cL_law 387 = .ok (.istore 15, 2) := by decide +kernel
theorem dL_law_389 : decode cL_law 389 = .ok (.iload 13, 2) := by decide +kernel
theorem dL_law_391 : decode cL_law 391 = .ok (.iload 11, 2) := by decide +kernel
theorem dL_law_393 : decode cL_law 393 = .ok (.if_icmp .le 11, 3) := by decide +kernel
theorem dL_law_396 : decode cL_law 396 = .ok (.iload 13, 2) := by decide +kernel
theorem dL_law_398 : decode cL_law 398 = .ok (.iload 11, 2) := by decide +kernel
theorem dL_law_400 : decode cL_law 400 = .ok (.isub, 1) := by decide +kernel
theorem dL_law_401 : decode cL_law 401 = .ok (.goto 8, 3) := by decide +kernel
theorem dL_law_404 : decode cL_law 404 = .ok (.iload 11, 2) := by decide +kernel
theorem dL_law_406 : decode cL_law 406 = .ok (.iload 13, 2) := by decide +kernel
theorem dL_law_408 : decode cL_law 408 = .ok (.isub, 1) := by decide +kernel
theorem dL_law_409 : decode cL_law 409 = .ok (.istore 16, 2) := by decide +kernel
theorem dL_law_411 : decode cL_law 411 = .ok (.iload 15, 2) := by decide +kernel
theorem dL_law_413 : decode cL_law 413 = .ok (.iload 16, 2) := by decide +kernel
theorem dL_law_415 : decode cL_law 415 = .ok (.if_icmp .gt 53, 3) := by decide +kernel
theorem dL_law_418 : decode cL_law 418 = .ok (.iload 16, 2) := by decide +kernel
theorem dL_law_420 : decode cL_law 420 = .ok (.iload 15, 2) := by decide +kernel
theorem dL_law_422 : decode cL_law 422 = .ok (.isub, 1) := by decide +kernel
theorem dL_law_423 : decode cL_law 423 = .ok (.iload 12, 2) := by decide +kernel
theorem dL_law_425 : decode cL_law 425 = .ok (.aload_n 1, 1) := by decide +kernel
theorem dL_law_426 : decode cL_law 426 = .ok (.bipush 15, 2) := by decide +kernel
theorem dL_law_428 : decode cL_law 428 = .ok (.invokevirtual 9, 3) := by decide +kernel
theorem dL_law_431 : decode cL_law 431 = .ok (.imul, 1) := by decide +kernel
theorem dL_law_432 : decode cL_law 432 = .ok (.if_icmp .gt 36, 3) := by decide +kernel
theorem dL_law_435 : decode cL_law 435 = .ok (.iload 15, 2) := by decide +kernel
theorem dL_law_437 : decode cL_law 437 = .ok (.ifCond .eq 20, 3) := by decide +kernel
theorem dL_law_440 : decode cL_law 440 = .ok (.iload 16, 2) := by decide +kernel
theorem dL_law_442 : decode cL_law 442 = .ok (.iload 15, 2) := by decide +kernel
theorem dL_law_444 : decode cL_law 444 = .ok (.isub, 1) := by decide +kernel
theorem dL_law_445 : decode cL_law 445 = .ok (.iload 12, 2) := by decide +kernel
theorem dL_law_447 : decode cL_law 447 = .ok (.aload_n 1, 1) := by decide +kernel
theorem dL_law_448 : decode cL_law 448 = .ok (.bipush 15, 2) := by decide +kernel
theorem dL_law_450 : decode cL_law 450 = .ok (.invokevirtual 9, 3) := by decide +kernel
theorem dL_law_453 : decode cL_law 453 = .ok (.imul, 1) := by decide +kernel
theorem dL_law_454 : decode cL_law 454 = .ok (.if_icmp .ne 14, 3) := by decide +kernel
theorem dL_law_457 : decode cL_law 457 = .ok (.aload_n 1, 1) := by decide +kernel
theorem dL_law_458 : decode cL_law 458 = .ok (.invokestatic 39, 3) := by decide +kernel
theorem dL_law_461 : decode cL_law 461 = .ok (.ifCond .eq 7, 3) := by decide +kernel
theorem dL_law_464 : decode cL_law 464 = .ok (.iconst 1, 1) := by decide +kernel
theorem dL_law_465 : decode cL_law 465 = .ok (.goto 4, 3) := by decide +kernel
theorem dL_law_468 : decode cL_law 468 = .ok (.iconst 0, 1) := by decide +kernel
theorem dL_law_469 : decode cL_law 469 = .ok (.istore_n 2, 1) := by decide +kernel
theorem dL_law_470 : decode cL_law 470 = .ok (.iinc 4 1, 3) := by decide +kernel
theorem dL_law_473 : decode cL_law 473 = .ok (.goto (-318), 3) := by decide +kernel
theorem dL_law_476 : decode cL_law 476 = .ok (.iload_n 2, 1) := by decide +kernel
theorem dL_law_477 : decode cL_law 477 = .ok (.ifCond .eq 99, 3) := by decide +kernel
theorem dL_law_480 : decode cL_law 480 = .ok (.aload_n 1, 1) := by decide +kernel
theorem dL_law_481 : decode cL_law 481 = .ok (.sipush 1000, 3) := by decide +kernel
theorem dL_law_484 : decode cL_law 484 = .ok (.invokevirtual 36, 3) := by decide +kernel
theorem dL_law_487 : decode cL_law 487 = .ok (.ifCond .lt 89, 3) := by decide +kernel
theorem dL_law_490 : decode cL_law 490 = .ok (.aload_n 1, 1) := by decide +kernel
theorem dL_law_491 : decode cL_law 491 = .ok (.iconst 1, 1) := by decide +kernel
theorem dL_law_492 : decode cL_law 492 = .ok (.invokevirtual 9, 3) := by decide +kernel
theorem dL_law_495 : decode cL_law 495 = .ok (.aload_n 1, 1) := by decide +kernel
theorem dL_law_496 : decode cL_law 496 = .ok (.iconst 0, 1) := by decide +kernel
theorem dL_law_497 : decode cL_law 497 = .ok (.sipush 1000, 3) := by decide +kernel
theorem dL_law_500 : decode cL_law 500 = .ok (.invokevirtual 57, 3) := by decide +kernel
theorem dL_law_503 : decode cL_law 503 = .ok (.if_icmp .ne 73, 3) := by decide +kernel
theorem dL_law_506 : decode cL_law 506 = .ok (.aload_n 1, 1) := by decide +kernel
theorem dL_law_507 : decode cL_law 507 = .ok (.iconst 5, 1) := by decide +kernel
theorem dL_law_508 : decode cL_law 508 = .ok (.invokevirtual 9, 3) := by decide +kernel
theorem dL_law_511 : decode cL_law 511 = .ok (.ifCond .ne 65, 3) := by decide +kernel
theorem dL_law_514 : decode cL_law 514 = .ok (.aload_n 1, 1) := by decide +kernel
theorem dL_law_515 : decode cL_law 515 = .ok (.iconst 0, 1) := by decide +kernel
theorem dL_law_516 : decode cL_law 516 = .ok (.invokevirtual 36, 3) := by decide +kernel
theorem dL_law_519 : decode cL_law 519 = .ok (.ifCond .lt 57, 3) := by decide +kernel
theorem dL_law_522 : decode cL_law 522 = .ok (.aload_n 1, 1) := by decide +kernel
theorem dL_law_523 : decode cL_law 523 = .ok (.iconst 5, 1) := by decide +kernel
theorem dL_law_524 : decode cL_law 524 = .ok (.invokevirtual 9, 3) := by decide +kernel
theorem dL_law_527 : decode cL_law 527 = .ok (.iconst 1, 1) := by decide +kernel
theorem dL_law_528 : decode cL_law 528 = .ok (.if_icmp .ne 48, 3) := by decide +kernel
theorem dL_law_531 : decode cL_law 531 = .ok (.aload_n 1, 1) := by decide +kernel
theorem dL_law_532 : decode cL_law 532 = .ok (.invokevirtual 67, 3) := by decide +kernel
theorem dL_law_535 : decode cL_law 535 = .ok (.iconst 1, 1) := by decide +kernel
theorem dL_law_536 : decode cL_law 536 = .ok (.if_icmp .ne 40, 3) := by decide +kernel
theorem dL_law_539 : decode cL_law 539 = .ok (.aload_n 1, 1) := by decide +kernel
theorem dL_law_540 : decode cL_law 540 = .ok (.invokevirtual 32, 3) := by decide +kernel
theorem dL_law_543 : decode cL_law 543 = .ok (.lconst 0, 1) := by decide +kernel
theorem dL_law_544 : decode cL_law 544 = .ok (.lcmp, 1) := by decide +kernel
theorem dL_law_545 : decode cL_law 545 = .ok (.ifCond .ne 31, 3) := by decide +kernel
theorem dL_law_548 : decode cL_law 548 = .ok (.aload_n 1, 1) := by decide +kernel
theorem dL_law_549 : decode cL_law 549 = .ok (.iconst 1, 1) := by decide +kernel
theorem dL_law_550 : decode cL_law 550 = .ok (.invokevirtual 9, 3) := by decide +kernel
theorem dL_law_553 : decode cL_law 553 = .ok (.ifCond .ne 23, 3) := by decide +kernel
theorem dL_law_556 : decode cL_law 556 = .ok (.aload_n 1, 1) := by decide +kernel
theorem dL_law_557 : decode cL_law 557 = .ok (.iconst 2, 1) := by decide +kernel
theorem dL_law_558 : decode cL_law 558 = .ok (.invokevirtual 9, 3) := by decide +kernel
theorem dL_law_561 : decode cL_law 561 = .ok (.ifCond .ne 15, 3) := by decide +kernel
theorem dL_law_564 : decode cL_law 564 = .ok (.aload_n 1, 1) := by decide +kernel
theorem dL_law_565 : decode cL_law 565 = .ok (.iconst 3, 1) := by decide +kernel
theorem dL_law_566 : decode cL_law 566 = .ok (.invokevirtual 9, 3) := by decide +kernel
theorem dL_law_569 : decode cL_law 569 = .ok (.ifCond .ne 7, 3) := by decide +kernel
theorem dL_law_572 : decode cL_law 572 = .ok (.iconst 1, 1) := by decide +kernel
theorem dL_law_573 : decode cL_law 573 = .ok (.goto 4, 3) := by decide +kernel
theorem dL_law_576 : decode cL_law 576 = .ok (.iconst 0, 1) := by decide +kernel
theorem dL_law_577 : decode cL_law 577 = .ok (.istore_n 2, 1) := by decide +kernel
theorem dL_law_578 : decode cL_law 578 = .ok (.iload_n 2, 1) := by decide +kernel
theorem dL_law_579 : decode cL_law 579 = .ok (.ifCond .eq 39, 3) := by decide +kernel
theorem dL_law_582 : decode cL_law 582 = .ok (.aload_n 1, 1) := by decide +kernel
theorem dL_law_583 : decode cL_law 583 = .ok (.invokevirtual 43, 3) := by decide +kernel
theorem dL_law_586 : decode cL_law 586 = .ok (.ifCond .lt 32, 3) := by decide +kernel
theorem dL_law_589 : decode cL_law 589 = .ok (.aload_n 1, 1) := by decide +kernel
theorem dL_law_590 : decode cL_law 590 = .ok (.invokevirtual 43, 3) := by decide +kernel
theorem dL_law_593 : decode cL_law 593 = .ok (.ifCond .lt 25, 3) := by decide +kernel
theorem dL_law_596 : decode cL_law 596 = .ok (.aload_n 1, 1) := by decide +kernel
theorem dL_law_597 : decode cL_law 597 = .ok (.iconst 0, 1) := by decide +kernel
theorem dL_law_598 : decode cL_law 598 = .ok (.invokevirtual 9, 3) := by decide +kernel
theorem dL_law_601 : decode cL_law 601 = .ok (.sipush 1000, 3) := by decide +kernel
theorem dL_law_604 : decode cL_law 604 = .ok (.if_icmp .ne 14, 3) := by decide +kernel
theorem dL_law_607 : decode cL_law 607 = .ok (.aload_n 1, 1) := by decide +kernel
theorem dL_law_608 : decode cL_law 608 = .ok (.invokestatic 39, 3) := by decide +kernel
theorem dL_law_611 : decode cL_law 611 = .ok (.ifCond .eq 7, 3) := by decide +kernel
theorem dL_law_614 : decode cL_law 614 = .ok (.iconst 1, 1) := by decide +kernel
theorem dL_law_615 : decode cL_law 615 = .ok (.goto 4, 3) := by decide +kernel
theorem dL_law_618 : decode cL_law 618 = .ok (.iconst 0, 1) := by decide +kernel
theorem dL_law_619 : decode cL_law 619 = .ok (.ireturn, 1) := by decide +kernel
