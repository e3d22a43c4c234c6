theorem dX7_entry_39 : decode cX7_entry 39 = .ok (.aload_n 0, 1) := by decide +kernel
theorem dX7_entry_40 : decode cX7_entry 40 = .ok (.getfield 12, 3) := by decide +kernel
theorem dX7_entry_43 : decode cX7_entry 43 = .ok (.getfield 134, 3) := by decide +kernel
theorem dX7_entry_46 : decode cX7_entry 46 = .ok (.iload_n 2, 1) := by decide +kernel
theorem dX7_entry_47 : decode cX7_entry 47 = .ok (.iload_n 1, 1) := by decide +kernel
theorem dX7_entry_48 : decode cX7_entry 48 = .ok (.iconst 2, 1) := by decide +kernel
theorem dX7_entry_49 : decode cX7_entry 49 = .ok (.isub, 1) := by decide +kernel
theorem dX7_entry_50 : decode cX7_entry 50 = .ok (.invokevirtual 146, 3) := by decide +kernel
theorem dX7_entry_53 : decode cX7_entry 53 = .ok (.ireturn, 1) := by decide +kernel
theorem dX7_readingAt_0 : decode cX7_readingAt 0 = .ok (.iload_n 1, 1) := by decide +kernel
theorem dX7_readingAt_1 : decode cX7_readingAt 1 = .ok (.sipush (-1000), 3) := by decide +kernel
theorem dX7_readingAt_4 : decode cX7_readingAt 4 = .ok (.sipush 30000, 3) := by decide +kernel
theorem dX7_readingAt_7 : decode cX7_readingAt 7 = .ok (.invokestatic 37, 3) := by decide +kernel
theorem dX7_readingAt_10 : decode cX7_readingAt 10 = .ok (.ifCond .eq 6, 3) := by decide +kernel
theorem dX7_readingAt_13 : decode cX7_readingAt 13 = .ok (.ldc 41, 2) := by decide +kernel
theorem dX7_readingAt_15 : decode cX7_readingAt 15 = .ok (.ireturn, 1) := by decide +kernel
theorem dX7_readingAt_16 : decode cX7_readingAt 16 = .ok (.aload_n 0, 1) := by decide +kernel
theorem dX7_readingAt_17 : decode cX7_readingAt 17 = .ok (.getfield 12, 3) := by decide +kernel
theorem dX7_readingAt_20 : decode cX7_readingAt 20 = .ok (.getfield 134, 3) := by decide +kernel
theorem dX7_readingAt_23 : decode cX7_readingAt 23 = .ok (.iload_n 1, 1) := by decide +kernel
theorem dX7_readingAt_24 : decode cX7_readingAt 24 = .ok (.iconst 1, 1) := by decide +kernel
theorem dX7_readingAt_25 : decode cX7_readingAt 25 = .ok (.invokevirtual 187, 3) := by decide +kernel
theorem dX7_readingAt_28 : decode cX7_readingAt 28 = .ok (.ireturn, 1) := by decide +kernel
theorem dX7_slopeBits_0 : decode cX7_slopeBits 0 = .ok (.iload_n 1, 1) := by decide +kernel
theorem dX7_slopeBits_1 : decode cX7_slopeBits 1 = .ok (.ifCond .ge 6, 3) := by decide +kernel
theorem dX7_slopeBits_4 : decode cX7_slopeBits 4 = .ok (.ldc 41, 2) := by decide +kernel
theorem dX7_slopeBits_6 : decode cX7_slopeBits 6 = .ok (.ireturn, 1) := by decide +kernel
theorem dX7_slopeBits_7 : decode cX7_slopeBits 7 = .ok (.iload_n 1, 1) := by decide +kernel
theorem dX7_slopeBits_8 : decode cX7_slopeBits 8 = .ok (.aload_n 0, 1) := by decide +kernel
theorem dX7_slopeBits_9 : decode cX7_slopeBits 9 = .ok (.getfield 12, 3) := by decide +kernel
theorem dX7_slopeBits_12 : decode cX7_slopeBits 12 = .ok (.getfield 134, 3) := by decide +kernel
theorem dX7_slopeBits_15 : decode cX7_slopeBits 15 = .ok (.getfield 93, 3) := by decide +kernel
theorem dX7_slopeBits_18 : decode cX7_slopeBits 18 = .ok (.iconst 1, 1) := by decide +kernel
theorem dX7_slopeBits_19 : decode cX7_slopeBits 19 = .ok (.isub, 1) := by decide +kernel
theorem dX7_slopeBits_20 : decode cX7_slopeBits 20 = .ok (.if_icmp .lt 6, 3) := by decide +kernel
theorem dX7_slopeBits_23 : decode cX7_slopeBits 23 = .ok (.ldc 177, 2) := by decide +kernel
theorem dX7_slopeBits_25 : decode cX7_slopeBits 25 = .ok (.ireturn, 1) := by decide +kernel
theorem dX7_slopeBits_26 : decode cX7_slopeBits 26 = .ok (.aload_n 0, 1) := by decide +kernel
theorem dX7_slopeBits_27 : decode cX7_slopeBits 27 = .ok (.getfield 12, 3) := by decide +kernel
theorem dX7_slopeBits_30 : decode cX7_slopeBits 30 = .ok (.getfield 134, 3) := by decide +kernel
theorem dX7_slopeBits_33 : decode cX7_slopeBits 33 = .ok (.iload_n 1, 1) := by decide +kernel
theorem dX7_slopeBits_34 : decode cX7_slopeBits 34 = .ok (.invokevirtual 190, 3) := by decide +kernel
theorem dX7_slopeBits_37 : decode cX7_slopeBits 37 = .ok (.invokestatic 194, 3) := by decide +kernel
theorem dX7_slopeBits_40 : decode cX7_slopeBits 40 = .ok (.ireturn, 1) := by decide +kernel
theorem dX7_set_0 : decode cX7_set 0 = .ok (.iload_n 1, 1) := by decide +kernel
theorem dX7_set_1 : decode cX7_set 1 = .ok (.iconst 0, 1) := by decide +kernel
theorem dX7_set_2 : decode cX7_set 2 = .ok (.iconst 2, 1) := by decide +kernel
theorem dX7_set_3 : decode cX7_set 3 = .ok (.invokestatic 37, 3) := by decide +kernel
theorem dX7_set_6 : decode cX7_set 6 = .ok (.ifCond .ne 15, 3) := by decide +kernel
theorem dX7_set_9 : decode cX7_set 9 = .ok (.iload_n 2, 1) := by decide +kernel
theorem dX7_set_10 : decode cX7_set 10 = .ok (.iconst 0, 1) := by decide +kernel
theorem dX7_set_11 : decode cX7_set 11 = .ok (.iload_n 1, 1) := by decide +kernel
theorem dX7_set_12 : decode cX7_set 12 = .ok (.invokestatic 198, 3) := by decide +kernel
theorem dX7_set_15 : decode cX7_set 15 = .ok (.invokestatic 37, 3) := by decide +kernel
theorem dX7_set_18 : decode cX7_set 18 = .ok (.ifCond .eq 6, 3) := by decide +kernel
theorem dX7_set_21 : decode cX7_set 21 = .ok (.ldc 41, 2) := by decide +kernel
theorem dX7_set_23 : decode cX7_set 23 = .ok (.ireturn, 1) := by decide +kernel
theorem dX7_set_24 : decode cX7_set 24 = .ok (.aload_n 0, 1) := by decide +kernel
theorem dX7_set_25 : decode cX7_set 25 = .ok (.getfield 19, 3) := by decide +kernel
theorem dX7_set_28 : decode cX7_set 28 = .ok (.aload_n 0, 1) := by decide +kernel
theorem dX7_set_29 : decode cX7_set 29 = .ok (.getfield 12, 3) := by decide +kernel
theorem dX7_set_32 : decode cX7_set 32 = .ok (.invokevirtual 49, 3) := by decide +kernel
theorem dX7_set_35 : decode cX7_set 35 = .ok (.aload_n 0, 1) := by decide +kernel
theorem dX7_set_36 : decode cX7_set 36 = .ok (.getfield 12, 3) := by decide +kernel
theorem dX7_set_39 : decode cX7_set 39 = .ok (.getfield 53, 3) := by decide +kernel
theorem dX7_set_42 : decode cX7_set 42 = .ok (.iload_n 1, 1) := by decide +kernel
theorem dX7_set_43 : decode cX7_set 43 = .ok (.iload_n 2, 1) := by decide +kernel
theorem dX7_set_44 : decode cX7_set 44 = .ok (.invokevirtual 201, 3) := by decide +kernel
theorem dX7_set_47 : decode cX7_set 47 = .ok (.ireturn, 1) := by decide +kernel
theorem dX7_addWeight_0 : decode cX7_addWeight 0 = .ok (.iload_n 1, 1) := by decide +kernel
theorem dX7_addWeight_1 : decode cX7_addWeight 1 = .ok (.iconst 1, 1) := by decide +kernel
theorem dX7_addWeight_2 : decode cX7_addWeight 2 = .ok (.sipush 500, 3) := by decide +kernel
theorem dX7_addWeight_5 : decode cX7_addWeight 5 = .ok (.invokestatic 37, 3) := by decide +kernel
theorem dX7_addWeight_8 : decode cX7_addWeight 8 = .ok (.ifCond .ne 25, 3) := by decide +kernel
theorem dX7_addWeight_11 : decode cX7_addWeight 11 = .ok (.iload_n 2, 1) := by decide +kernel
theorem dX7_addWeight_12 : decode cX7_addWeight 12 = .ok (.bipush (-9), 2) := by decide +kernel
theorem dX7_addWeight_14 : decode cX7_addWeight 14 = .ok (.bipush 9, 2) := by decide +kernel
theorem dX7_addWeight_16 : decode cX7_addWeight 16 = .ok (.invokestatic 37, 3) := by decide +kernel
theorem dX7_addWeight_19 : decode cX7_addWeight 19 = .ok (.ifCond .ne 14, 3) := by decide +kernel
theorem dX7_addWeight_22 : decode cX7_addWeight 22 = .ok (.iload_n 3, 1) := by decide +kernel
theorem dX7_addWeight_23 : decode cX7_addWeight 23 = .ok (.iconst 0, 1) := by decide +kernel
theorem dX7_addWeight_24 : decode cX7_addWeight 24 = .ok (.sipush 1000, 3) := by decide +kernel
theorem dX7_addWeight_27 : decode cX7_addWeight 27 = .ok (.invokestatic 37, 3) := by decide +kernel
theorem dX7_addWeight_30 : decode cX7_addWeight 30 = .ok (.ifCond .eq 6, 3) := by decide +kernel
theorem dX7_addWeight_33 : decode cX7_addWeight 33 = .ok (.ldc 41, 2) := by decide +kernel
theorem dX7_addWeight_35 : decode cX7_addWeight 35 = .ok (.ireturn, 1) := by decide +kernel
theorem dX7_addWeight_36 : decode cX7_addWeight 36 = .ok (.iload 4, 2) := by decide +kernel
theorem dX7_addWeight_38 : decode cX7_addWeight 38 = .ok (.iconst (-1), 1) := by decide +kernel
theorem dX7_addWeight_39 : decode cX7_addWeight 39 = .ok (.if_icmp .eq 21, 3) := by decide +kernel
theorem dX7_addWeight_42 : decode cX7_addWeight 42 = .ok (.aload_n 0, 1) := by decide +kernel
theorem dX7_addWeight_43 : decode cX7_addWeight 43 = .ok (.getfield 12, 3) := by decide +kernel
theorem dX7_addWeight_46 : decode cX7_addWeight 46 = .ok (.getfield 118, 3) := by decide +kernel
theorem dX7_addWeight_49 : decode cX7_addWeight 49 = .ok (.iload 4, 2) := by decide +kernel
theorem dX7_addWeight_51 : decode cX7_addWeight 51 = .ok (.invokevirtual 204, 3) := by decide +kernel
theorem dX7_addWeight_54 : decode cX7_addWeight 54 = .ok (.ifCond .ne 6, 3) := by decide +kernel
theorem dX7_addWeight_57 : decode cX7_addWeight 57 = .ok (.ldc 41, 2) := by decide +kernel
theorem dX7_addWeight_59 : decode cX7_addWeight 59 = .ok (.ireturn, 1) := by decide +kernel
theorem dX7_addWeight_60 : decode cX7_addWeight 60 = .ok (.aload_n 0, 1) := by decide +kernel
theorem dX7_addWeight_61 : decode cX7_addWeight 61 = .ok (.getfield 12, 3) := by decide +kernel
theorem dX7_addWeight_64 : decode cX7_addWeight 64 = .ok (.getfield 118, 3) := by decide +kernel
theorem dX7_addWeight_67 : decode cX7_addWeight 67 = .ok (.getfield 122, 3) := by decide +kernel
theorem dX7_addWeight_70 : decode cX7_addWeight 70 = .ok (.bipush 8, 2) := by decide +kernel
theorem dX7_addWeight_72 : decode cX7_addWeight 72 = .ok (.if_icmp .lt 6, 3) := by decide +kernel
theorem dX7_addWeight_75 : decode cX7_addWeight 75 = .ok (.ldc 169, 2) := by decide +kernel
theorem dX7_addWeight_77 : decode cX7_addWeight 77 = .ok (.ireturn, 1) := by decide +kernel
theorem dX7_addWeight_78 : decode cX7_addWeight 78 = .ok (.aload_n 0, 1) := by decide +kernel
theorem dX7_addWeight_79 : decode cX7_addWeight 79 = .ok (.getfield 19, 3) := by decide +kernel
theorem dX7_addWeight_82 : decode cX7_addWeight 82 = .ok (.aload_n 0, 1) := by decide +kernel
theorem dX7_addWeight_83 : decode cX7_addWeight 83 = .ok (.getfield 12, 3) := by decide +kernel
theorem dX7_addWeight_86 : decode cX7_addWeight 86 = .ok (.invokevirtual 49, 3) := by decide +kernel
theorem dX7_addWeight_89 : decode cX7_addWeight 89 = .ok (.aload_n 0, 1) := by decide +kernel
theorem dX7_addWeight_90 : decode cX7_addWeight 90 = .ok (.getfield 12, 3) := by decide +kernel
theorem dX7_addWeight_93 : decode cX7_addWeight 93 = .ok (.getfield 118, 3) := by decide +kernel
theorem dX7_addWeight_96 : decode cX7_addWeight 96 = .ok (.iload_n 1, 1) := by decide +kernel
theorem dX7_addWeight_97 : decode cX7_addWeight 97 = .ok (.iload_n 2, 1) := by decide +kernel
theorem dX7_addWeight_98 : decode cX7_addWeight 98 = .ok (.iload_n 3, 1) := by decide +kernel
theorem dX7_addWeight_99 : decode cX7_addWeight 99 = .ok (.iload 4, 2) := by decide +kernel
theorem dX7_addWeight_101 : decode cX7_addWeight 101 = .ok (.invokevirtual 207, 3) := by decide +kernel
theorem dX7_addWeight_104 : decode cX7_addWeight 104 = .ok (.aload_n 0, 1) := by decide +kernel
theorem dX7_addWeight_105 : decode cX7_addWeight 105 = .ok (.getfield 12, 3) := by decide +kernel
theorem dX7_addWeight_108 : decode cX7_addWeight 108 = .ok (.getfield 118, 3) := by decide +kernel
theorem dX7_addWeight_111 : decode cX7_addWeight 111 = .ok (.getfield 122, 3) := by decide +kernel
theorem dX7_addWeight_114 : decode cX7_addWeight 114 = .ok (.iconst 1, 1) := by decide +kernel
theorem dX7_addWeight_115 : decode cX7_addWeight 115 = .ok (.isub, 1) := by decide +kernel
theorem dX7_addWeight_116 : decode cX7_addWeight 116 = .ok (.ireturn, 1) := by decide +kernel
theorem dX7_removeWeight_0 : decode cX7_removeWeight 0 = .ok (.aload_n 0, 1) := by decide +kernel
theorem dX7_removeWeight_1 : decode cX7_removeWeight 1 = .ok (.getfield 12, 3) := by decide +kernel
theorem dX7_removeWeight_4 : decode cX7_removeWeight 4 = .ok (.getfield 118, 3) := by decide +kernel
theorem dX7_removeWeight_7 : decode cX7_removeWeight 7 = .ok (.astore_n 2, 1) := by decide +kernel
theorem dX7_removeWeight_8 : decode cX7_removeWeight 8 = .ok (.aload_n 2, 1) := by decide +kernel
theorem dX7_removeWeight_9 : decode cX7_removeWeight 9 = .ok (.iload_n 1, 1) := by decide +kernel
theorem dX7_removeWeight_10 : decode cX7_removeWeight 10 = .ok (.invokevirtual 204, 3) := by decide +kernel
theorem dX7_removeWeight_13 : decode cX7_removeWeight 13 = .ok (.ifCond .ne 6, 3) := by decide +kernel
theorem dX7_removeWeight_16 : decode cX7_removeWeight 16 = .ok (.ldc 41, 2) := by decide +kernel
theorem dX7_removeWeight_18 : decode cX7_removeWeight 18 = .ok (.ireturn, 1) := by decide +kernel
theorem dX7_removeWeight_19 : decode cX7_removeWeight 19 = .ok (.aload_n 2, 1) := by decide +kernel
theorem dX7_removeWeight_20 : decode cX7_removeWeight 20 = .ok (.iload_n 1, 1) := by decide +kernel
theorem dX7_removeWeight_21 : decode cX7_removeWeight 21 = .ok (.invokevirtual 211, 3) := by decide +kernel
theorem dX7_removeWeight_24 : decode cX7_removeWeight 24 = .ok (.ifCond .ne 11, 3) := by decide +kernel
theorem dX7_removeWeight_27 : decode cX7_removeWeight 27 = .ok (.aload_n 2, 1) := by decide +kernel
theorem dX7_removeWeight_28 : decode cX7_removeWeight 28 = .ok (.iload_n 1, 1) := by decide +kernel
theorem dX7_removeWeight_29 : decode cX7_removeWeight 29 = .ok (.invokevirtual 214, 3) := by decide +kernel
theorem dX7_removeWeight_32 : decode cX7_removeWeight 32 = .ok (.ifCond .eq 6, 3) := by decide +kernel
theorem dX7_removeWeight_35 : decode cX7_removeWeight 35 = .ok (.ldc 102, 2) := by decide +kernel
theorem dX7_removeWeight_37 : decode cX7_removeWeight 37 = .ok (.ireturn, 1) := by decide +kernel
theorem dX7_removeWeight_38 : decode cX7_removeWeight 38 = .ok (.aload_n 0, 1) := by decide +kernel
theorem dX7_removeWeight_39 : decode cX7_removeWeight 39 = .ok (.getfield 19, 3) := by decide +kernel
theorem dX7_removeWeight_42 : decode cX7_removeWeight 42 = .ok (.aload_n 0, 1) := by decide +kernel
theorem dX7_removeWeight_43 : decode cX7_removeWeight 43 = .ok (.getfield 12, 3) := by decide +kernel
theorem dX7_removeWeight_46 : decode cX7_removeWeight 46 = .ok (.invokevirtual 49, 3) := by decide +kernel
theorem dX7_removeWeight_49 : decode cX7_removeWeight 49 = .ok (.aload_n 2, 1) := by decide +kernel
theorem dX7_removeWeight_50 : decode cX7_removeWeight 50 = .ok (.iload_n 1, 1) := by decide +kernel
theorem dX7_removeWeight_51 : decode cX7_removeWeight 51 = .ok (.invokevirtual 217, 3) := by decide +kernel
theorem dX7_removeWeight_54 : decode cX7_removeWeight 54 = .ok (.aload_n 2, 1) := by decide +kernel
theorem dX7_removeWeight_55 : decode cX7_removeWeight 55 = .ok (.getfield 122, 3) := by decide +kernel
theorem dX7_removeWeight_58 : decode cX7_removeWeight 58 = .ok (.ireturn, 1) := by decide +kernel
theorem dX7_weight_0 : decode cX7_weight 0 = .ok (.aload_n 0, 1) := by decide +kernel
theorem dX7_weight_1 : decode cX7_weight 1 = .ok (.getfield 12, 3) := by decide +kernel
theorem dX7_weight_4 : decode cX7_weight 4 = .ok (.getfield 118, 3) := by decide +kernel
theorem dX7_weight_7 : decode cX7_weight 7 = .ok (.iload_n 1, 1) := by decide +kernel
theorem dX7_weight_8 : decode cX7_weight 8 = .ok (.invokevirtual 204, 3) := by decide +kernel
theorem dX7_weight_11 : decode cX7_weight 11 = .ok (.ifCond .eq 13, 3) := by decide +kernel
theorem dX7_weight_14 : decode cX7_weight 14 = .ok (.iload_n 2, 1) := by decide +kernel
theorem dX7_weight_15 : decode cX7_weight 15 = .ok (.iconst 0, 1) := by decide +kernel
theorem dX7_weight_16 : decode cX7_weight 16 = .ok (.bipush 8, 2) := by decide +kernel
theorem dX7_weight_18 : decode cX7_weight 18 = .ok (.invokestatic 37, 3) := by decide +kernel
theorem dX7_weight_21 : decode cX7_weight 21 = .ok (.ifCond .eq 6, 3) := by decide +kernel
theorem dX7_weight_24 : decode cX7_weight 24 = .ok (.ldc 41, 2) := by decide +kernel
theorem dX7_weight_26 : decode cX7_weight 26 = .ok (.ireturn, 1) := by decide +kernel
theorem dX7_weight_27 : decode cX7_weight 27 = .ok (.aload_n 0, 1) := by decide +kernel
theorem dX7_weight_28 : decode cX7_weight 28 = .ok (.getfield 12, 3) := by decide +kernel
theorem dX7_weight_31 : decode cX7_weight 31 = .ok (.getfield 118, 3) := by decide +kernel
theorem dX7_weight_34 : decode cX7_weight 34 = .ok (.iload_n 1, 1) := by decide +kernel
theorem dX7_weight_35 : decode cX7_weight 35 = .ok (.iload_n 2, 1) := by decide +kernel
theorem dX7_weight_36 : decode cX7_weight 36 = .ok (.invokevirtual 218, 3) := by decide +kernel
theorem dX7_weight_39 : decode cX7_weight 39 = .ok (.ireturn, 1) := by decide +kernel
theorem dX7_calibration_0 : decode cX7_calibration 0 = .ok (.iload_n 2, 1) := by decide +kernel
theorem dX7_calibration_1 : decode cX7_calibration 1 = .ok (.iconst 0, 1) := by decide +kernel
theorem dX7_calibration_2 : decode cX7_calibration 2 = .ok (.bipush 14, 2) := by decide +kernel
theorem dX7_calibration_4 : decode cX7_calibration 4 = .ok (.invokestatic 37, 3) := by decide +kernel
theorem dX7_calibration_7 : decode cX7_calibration 7 = .ok (.ifCond .eq 6, 3) := by decide +kernel
theorem dX7_calibration_10 : decode cX7_calibration 10 = .ok (.ldc 41, 2) := by decide +kernel
theorem dX7_calibration_12 : decode cX7_calibration 12 = .ok (.ireturn, 1) := by decide +kernel
theorem dX7_calibration_13 : decode cX7_calibration 13 = .ok (.aload_n 0, 1) := by decide +kernel
theorem dX7_calibration_14 : decode cX7_calibration 14 = .ok (.getfield 12, 3) := by decide +kernel
theorem dX7_calibration_17 : decode cX7_calibration 17 = .ok (.getfield 118, 3) := by decide +kernel
theorem dX7_calibration_20 : decode cX7_calibration 20 = .ok (.iload_n 1, 1) := by decide +kernel
theorem dX7_calibration_21 : decode cX7_calibration 21 = .ok (.invokevirtual 221, 3) := by decide +kernel
theorem dX7_calibration_24 : decode cX7_calibration 24 = .ok (.istore_n 3, 1) := by decide +kernel
theorem dX7_calibration_25 : decode cX7_calibration 25 = .ok (.iload_n 3, 1) := by decide +kernel
theorem dX7_calibration_26 : decode cX7_calibration 26 = .ok (.ifCond .eq 5, 3) := by decide +kernel
theorem dX7_calibration_29 : decode cX7_calibration 29 = .ok (.iload_n 3, 1) := by decide +kernel
theorem dX7_calibration_30 : decode cX7_calibration 30 = .ok (.ireturn, 1) := by decide +kernel
theorem dX7_calibration_31 : decode cX7_calibration 31 = .ok (.aload_n 0, 1) := by decide +kernel
theorem dX7_calibration_32 : decode cX7_calibration 32 = .ok (.getfield 33, 3) := by decide +kernel
theorem dX7_calibration_35 : decode cX7_calibration 35 = .ok (.aload_n 0, 1) := by decide +kernel
theorem dX7_calibration_36 : decode cX7_calibration 36 = .ok (.getfield 12, 3) := by decide +kernel
theorem dX7_calibration_39 : decode cX7_calibration 39 = .ok (.iload_n 1, 1) := by decide +kernel
theorem dX7_calibration_40 : decode cX7_calibration 40 = .ok (.invokevirtual 224, 3) := by decide +kernel
theorem dX7_calibration_43 : decode cX7_calibration 43 = .ok (.aload_n 0, 1) := by decide +kernel
theorem dX7_calibration_44 : decode cX7_calibration 44 = .ok (.getfield 33, 3) := by decide +kernel
theorem dX7_calibration_47 : decode cX7_calibration 47 = .ok (.iload_n 2, 1) := by decide +kernel
theorem dX7_calibration_48 : decode cX7_calibration 48 = .ok (.invokevirtual 228, 3) := by decide +kernel
theorem dX7_calibration_51 : decode cX7_calibration 51 = .ok (.ireturn, 1) := by decide +kernel
theorem dX7_adopt_0 : decode cX7_adopt 0 = .ok (.aload_n 0, 1) := by decide +kernel
theorem dX7_adopt_1 : decode cX7_adopt 1 = .ok (.getfield 12, 3) := by decide +kernel
theorem dX7_adopt_4 : decode cX7_adopt 4 = .ok (.getfield 118, 3) := by decide +kernel
theorem dX7_adopt_7 : decode cX7_adopt 7 = .ok (.iload_n 1, 1) := by decide +kernel
theorem dX7_adopt_8 : decode cX7_adopt 8 = .ok (.invokevirtual 221, 3) := by decide +kernel
theorem dX7_adopt_11 : decode cX7_adopt 11 = .ok (.istore_n 2, 1) := by decide +kernel
theorem dX7_adopt_12 : decode cX7_adopt 12 = .ok (.iload_n 2, 1) := by decide +kernel
theorem dX7_adopt_13 : decode cX7_adopt 13 = .ok (.ifCond .eq 5, 3) := by decide +kernel
theorem dX7_adopt_16 : decode cX7_adopt 16 = .ok (.iload_n 2, 1) := by decide +kernel
theorem dX7_adopt_17 : decode cX7_adopt 17 = .ok (.ireturn, 1) := by decide +kernel
theorem dX7_adopt_18 : decode cX7_adopt 18 = .ok (.aload_n 0, 1) := by decide +kernel
theorem dX7_adopt_19 : decode cX7_adopt 19 = .ok (.getfield 33, 3) := by decide +kernel
theorem dX7_adopt_22 : decode cX7_adopt 22 = .ok (.aload_n 0, 1) := by decide +kernel
theorem dX7_adopt_23 : decode cX7_adopt 23 = .ok (.getfield 12, 3) := by decide +kernel
theorem dX7_adopt_26 : decode cX7_adopt 26 = .ok (.iload_n 1, 1) := by decide +kernel
theorem dX7_adopt_27 : decode cX7_adopt 27 = .ok (.invokevirtual 224, 3) := by decide +kernel
theorem dX7_adopt_30 : decode cX7_adopt 30 = .ok (.aload_n 0, 1) := by decide +kernel
theorem dX7_adopt_31 : decode cX7_adopt 31 = .ok (.getfield 33, 3) := by decide +kernel
theorem dX7_adopt_34 : decode cX7_adopt 34 = .ok (.invokevirtual 230, 3) := by decide +kernel
theorem dX7_adopt_37 : decode cX7_adopt 37 = .ok (.ifCond .ne 6, 3) := by decide +kernel
theorem dX7_adopt_40 : decode cX7_adopt 40 = .ok (.ldc 102, 2) := by decide +kernel
theorem dX7_adopt_42 : decode cX7_adopt 42 = .ok (.ireturn, 1) := by decide +kernel
theorem dX7_adopt_43 : decode cX7_adopt 43 = .ok (.aload_n 0, 1) := by decide +kernel
theorem dX7_adopt_44 : decode cX7_adopt 44 = .ok (.getfield 19, 3) := by decide +kernel
theorem dX7_adopt_47 : decode cX7_adopt 47 = .ok (.aload_n 0, 1) := by decide +kernel
theorem dX7_adopt_48 : decode cX7_adopt 48 = .ok (.getfield 12, 3) := by decide +kernel
theorem dX7_adopt_51 : decode cX7_adopt 51 = .ok (.invokevirtual 49, 3) := by decide +kernel
theorem dX7_adopt_54 : decode cX7_adopt 54 = .ok (.aload_n 0, 1) := by decide +kernel
theorem dX7_adopt_55 : decode cX7_adopt 55 = .ok (.getfield 12, 3) := by decide +kernel
theorem dX7_adopt_58 : decode cX7_adopt 58 = .ok (.getfield 134, 3) := by decide +kernel
theorem dX7_adopt_61 : decode cX7_adopt 61 = .ok (.aload_n 0, 1) := by decide +kernel
theorem dX7_adopt_62 : decode cX7_adopt 62 = .ok (.getfield 33, 3) := by decide +kernel
theorem dX7_adopt_65 : decode cX7_adopt 65 = .ok (.getfield 233, 3) := by decide +kernel
theorem dX7_adopt_68 : decode cX7_adopt 68 = .ok (.invokevirtual 236, 3) := by decide +kernel
theorem dX7_adopt_71 : decode cX7_adopt 71 = .ok (.aload_n 0, 1) := by decide +kernel
theorem dX7_adopt_72 : decode cX7_adopt 72 = .ok (.getfield 12, 3) := by decide +kernel
theorem dX7_adopt_75 : decode cX7_adopt 75 = .ok (.getfield 134, 3) := by decide +kernel
theorem dX7_adopt_78 : decode cX7_adopt 78 = .ok (.getfield 93, 3) := by decide +kernel
theorem dX7_adopt_81 : decode cX7_adopt 81 = .ok (.ireturn, 1) := by decide +kernel
theorem dX7_type_0 : decode cX7_type 0 = .ok (.iload_n 1, 1) := by decide +kernel
theorem dX7_type_1 : decode cX7_type 1 = .ok (.bipush 32, 2) := by decide +kernel
theorem dX7_type_3 : decode cX7_type 3 = .ok (.bipush 126, 2) := by decide +kernel
theorem dX7_type_5 : decode cX7_type 5 = .ok (.invokestatic 37, 3) := by decide +kernel
theorem dX7_type_8 : decode cX7_type 8 = .ok (.ifCond .eq 6, 3) := by decide +kernel
theorem dX7_type_11 : decode cX7_type 11 = .ok (.ldc 41, 2) := by decide +kernel
theorem dX7_type_13 : decode cX7_type 13 = .ok (.ireturn, 1) := by decide +kernel
theorem dX7_type_14 : decode cX7_type 14 = .ok (.aload_n 0, 1) := by decide +kernel
theorem dX7_type_15 : decode cX7_type 15 = .ok (.getfield 26, 3) := by decide +kernel
theorem dX7_type_18 : decode cX7_type 18 = .ok (.getfield 128, 3) := by decide +kernel
theorem dX7_type_21 : decode cX7_type 21 = .ok (.bipush 80, 2) := by decide +kernel
theorem dX7_type_23 : decode cX7_type 23 = .ok (.if_icmp .lt 6, 3) := by decide +kernel
theorem dX7_type_26 : decode cX7_type 26 = .ok (.ldc 169, 2) := by decide +kernel
theorem dX7_type_28 : decode cX7_type 28 = .ok (.ireturn, 1) := by decide +kernel
theorem dX7_type_29 : decode cX7_type 29 = .ok (.aload_n 0, 1) := by decide +kernel
theorem dX7_type_30 : decode cX7_type 30 = .ok (.getfield 26, 3) := by decide +kernel
theorem dX7_type_33 : decode cX7_type 33 = .ok (.iload_n 1, 1) := by decide +kernel
theorem dX7_type_34 : decode cX7_type 34 = .ok (.i2c, 1) := by decide +kernel
theorem dX7_type_35 : decode cX7_type 35 = .ok (.invokevirtual 240, 3) := by decide +kernel
theorem dX7_type_38 : decode cX7_type 38 = .ok (.aload_n 0, 1) := by decide +kernel
theorem dX7_type_39 : decode cX7_type 39 = .ok (.getfield 26, 3) := by decide +kernel
theorem dX7_type_42 : decode cX7_type 42 = .ok (.getfield 128, 3) := by decide +kernel
theorem dX7_type_45 : decode cX7_type 45 = .ok (.ireturn, 1) := by decide +kernel
theorem dX7_clearText_0 : decode cX7_clearText 0 = .ok (.aload_n 0, 1) := by decide +kernel
theorem dX7_clearText_1 : decode cX7_clearText 1 = .ok (.getfield 26, 3) := by decide +kernel
theorem dX7_clearText_4 : decode cX7_clearText 4 = .ok (.getfield 128, 3) := by decide +kernel
theorem dX7_clearText_7 : decode cX7_clearText 7 = .ok (.istore_n 1, 1) := by decide +kernel
theorem dX7_clearText_8 : decode cX7_clearText 8 = .ok (.aload_n 0, 1) := by decide +kernel
theorem dX7_clearText_9 : decode cX7_clearText 9 = .ok (.getfield 26, 3) := by decide +kernel
theorem dX7_clearText_12 : decode cX7_clearText 12 = .ok (.iconst 0, 1) := by decide +kernel
theorem dX7_clearText_13 : decode cX7_clearText 13 = .ok (.putfield 128, 3) := by decide +kernel
theorem dX7_clearText_16 : decode cX7_clearText 16 = .ok (.iload_n 1, 1) := by decide +kernel
theorem dX7_clearText_17 : decode cX7_clearText 17 = .ok (.ireturn, 1) := by decide +kernel
theorem dX7_fault_0 : decode cX7_fault 0 = .ok (.aload_n 0, 1) := by decide +kernel
theorem dX7_fault_1 : decode cX7_fault 1 = .ok (.getfield 26, 3) := by decide +kernel
theorem dX7_fault_4 : decode cX7_fault 4 = .ok (.invokevirtual 243, 3) := by decide +kernel
theorem dX7_fault_7 : decode cX7_fault 7 = .ok (.istore_n 1, 1) := by decide +kernel
theorem dX7_fault_8 : decode cX7_fault 8 = .ok (.iload_n 1, 1) := by decide +kernel
theorem dX7_fault_9 : decode cX7_fault 9 = .ok (.aload_n 0, 1) := by decide +kernel
theorem dX7_fault_10 : decode cX7_fault 10 = .ok (.getfield 26, 3) := by decide +kernel
theorem dX7_fault_13 : decode cX7_fault 13 = .ok (.getfield 128, 3) := by decide +kernel
theorem dX7_fault_16 : decode cX7_fault 16 = .ok (.if_icmp .ge 7, 3) := by decide +kernel
theorem dX7_fault_19 : decode cX7_fault 19 = .ok (.iload_n 1, 1) := by decide +kernel
theorem dX7_fault_20 : decode cX7_fault 20 = .ok (.goto 5, 3) := by decide +kernel
theorem dX7_fault_23 : decode cX7_fault 23 = .ok (.ldc 177, 2) := by decide +kernel
theorem dX7_fault_25 : decode cX7_fault 25 = .ok (.ireturn, 1) := by decide +kernel
theorem dX7_move_0 : decode cX7_move 0 = .ok (.aload_n 0, 1) := by decide +kernel
theorem dX7_move_1 : decode cX7_move 1 = .ok (.getfield 26, 3) := by decide +kernel
theorem dX7_move_4 : decode cX7_move 4 = .ok (.invokevirtual 243, 3) := by decide +kernel
theorem dX7_move_7 : decode cX7_move 7 = .ok (.aload_n 0, 1) := by decide +kernel
theorem dX7_move_8 : decode cX7_move 8 = .ok (.getfield 26, 3) := by decide +kernel
theorem dX7_move_11 : decode cX7_move 11 = .ok (.getfield 128, 3) := by decide +kernel
theorem dX7_move_14 : decode cX7_move 14 = .ok (.if_icmp .ge 6, 3) := by decide +kernel
theorem dX7_move_17 : decode cX7_move 17 = .ok (.ldc 102, 2) := by decide +kernel
theorem dX7_move_19 : decode cX7_move 19 = .ok (.ireturn, 1) := by decide +kernel
theorem dX7_move_20 : decode cX7_move 20 = .ok (.aload_n 0, 1) := by decide +kernel
theorem dX7_move_21 : decode cX7_move 21 = .ok (.getfield 19, 3) := by decide +kernel
theorem dX7_move_24 : decode cX7_move 24 = .ok (.aload_n 0, 1) := by decide +kernel
theorem dX7_move_25 : decode cX7_move 25 = .ok (.getfield 12, 3) := by decide +kernel
theorem dX7_move_28 : decode cX7_move 28 = .ok (.invokevirtual 49, 3) := by decide +kernel
theorem dX7_move_31 : decode cX7_move 31 = .ok (.iconst 0, 1) := by decide +kernel
theorem dX7_move_32 : decode cX7_move 32 = .ok (.istore_n 1, 1) := by decide +kernel
theorem dX7_move_33 : decode cX7_move 33 = .ok (.iconst 0, 1) := by decide +kernel
theorem dX7_move_34 : decode cX7_move 34 = .ok (.istore_n 2, 1) := by decide +kernel
theorem dX7_move_35 : decode cX7_move 35 = .ok (.iload_n 1, 1) := by decide +kernel
theorem dX7_move_36 : decode cX7_move 36 = .ok (.bipush 80, 2) := by decide +kernel
theorem dX7_move_38 : decode cX7_move 38 = .ok (.if_icmp .ge 82, 3) := by decide +kernel
theorem dX7_move_41 : decode cX7_move 41 = .ok (.aload_n 0, 1) := by decide +kernel
theorem dX7_move_42 : decode cX7_move 42 = .ok (.getfield 26, 3) := by decide +kernel
theorem dX7_move_45 : decode cX7_move 45 = .ok (.iload_n 2, 1) := by decide +kernel
theorem dX7_move_46 : decode cX7_move 46 = .ok (.invokevirtual 246, 3) := by decide +kernel
theorem dX7_move_49 : decode cX7_move 49 = .ok (.ifCond .eq 71, 3) := by decide +kernel
theorem dX7_move_52 : decode cX7_move 52 = .ok (.aload_n 0, 1) := by decide +kernel
theorem dX7_move_53 : decode cX7_move 53 = .ok (.getfield 12, 3) := by decide +kernel
theorem dX7_move_56 : decode cX7_move 56 = .ok (.aload_n 0, 1) := by decide +kernel
theorem dX7_move_57 : decode cX7_move 57 = .ok (.getfield 26, 3) := by decide +kernel
theorem dX7_move_60 : decode cX7_move 60 = .ok (.getfield 249, 3) := by decide +kernel
theorem dX7_move_63 : decode cX7_move 63 = .ok (.aload_n 0, 1) := by decide +kernel
theorem dX7_move_64 : decode cX7_move 64 = .ok (.getfield 26, 3) := by decide +kernel
theorem dX7_move_67 : decode cX7_move 67 = .ok (.getfield 253, 3) := by decide +kernel
theorem dX7_move_70 : decode cX7_move 70 = .ok (.invokevirtual 256, 3) := by decide +kernel
theorem dX7_move_73 : decode cX7_move 73 = .ok (.istore_n 3, 1) := by decide +kernel
theorem dX7_move_74 : decode cX7_move 74 = .ok (.iload_n 3, 1) := by decide +kernel
theorem dX7_move_75 : decode cX7_move 75 = .ok (.ifCond .eq 10, 3) := by decide +kernel
theorem dX7_move_78 : decode cX7_move 78 = .ok (.aload_n 0, 1) := by decide +kernel
theorem dX7_move_79 : decode cX7_move 79 = .ok (.iload_n 3, 1) := by decide +kernel
theorem dX7_move_80 : decode cX7_move 80 = .ok (.putfield 260, 3) := by decide +kernel
theorem dX7_move_83 : decode cX7_move 83 = .ok (.iload_n 1, 1) := by decide +kernel
theorem dX7_move_84 : decode cX7_move 84 = .ok (.ireturn, 1) := by decide +kernel
theorem dX7_move_85 : decode cX7_move 85 = .ok (.aload_n 0, 1) := by decide +kernel
theorem dX7_move_86 : decode cX7_move 86 = .ok (.getfield 12, 3) := by decide +kernel
theorem dX7_move_89 : decode cX7_move 89 = .ok (.aload_n 0, 1) := by decide +kernel
theorem dX7_move_90 : decode cX7_move 90 = .ok (.getfield 26, 3) := by decide +kernel
theorem dX7_move_93 : decode cX7_move 93 = .ok (.getfield 249, 3) := by decide +kernel
theorem dX7_move_96 : decode cX7_move 96 = .ok (.aload_n 0, 1) := by decide +kernel
theorem dX7_move_97 : decode cX7_move 97 = .ok (.getfield 26, 3) := by decide +kernel
theorem dX7_move_100 : decode cX7_move 100 = .ok (.getfield 253, 3) := by decide +kernel
theorem dX7_move_103 : decode cX7_move 103 = .ok (.invokevirtual 263, 3) := by decide +kernel
theorem dX7_move_106 : decode cX7_move 106 = .ok (.iinc 1 1, 3) := by decide +kernel
theorem dX7_move_109 : decode cX7_move 109 = .ok (.aload_n 0, 1) := by decide +kernel
theorem dX7_move_110 : decode cX7_move 110 = .ok (.getfield 26, 3) := by decide +kernel
theorem dX7_move_113 : decode cX7_move 113 = .ok (.getfield 267, 3) := by decide +kernel
theorem dX7_move_116 : decode cX7_move 116 = .ok (.istore_n 2, 1) := by decide +kernel
theorem dX7_move_117 : decode cX7_move 117 = .ok (.goto (-82), 3) := by decide +kernel
theorem dX7_move_120 : decode cX7_move 120 = .ok (.iload_n 1, 1) := by decide +kernel
theorem dX7_move_121 : decode cX7_move 121 = .ok (.ireturn, 1) := by decide +kernel
theorem dX7_why_0 : decode cX7_why 0 = .ok (.aload_n 0, 1) := by decide +kernel
theorem dX7_why_1 : decode cX7_why 1 = .ok (.getfield 260, 3) := by decide +kernel
theorem dX7_why_4 : decode cX7_why 4 = .ok (.ireturn, 1) := by decide +kernel
theorem dX7_isOutside_0 : decode cX7_isOutside 0 = .ok (.iload_n 0, 1) := by decide +kernel
theorem dX7_isOutside_1 : decode cX7_isOutside 1 = .ok (.iload_n 1, 1) := by decide +kernel
theorem dX7_isOutside_2 : decode cX7_isOutside 2 = .ok (.if_icmp .lt 8, 3) := by decide +kernel
theorem dX7_isOutside_5 : decode cX7_isOutside 5 = .ok (.iload_n 0, 1) := by decide +kernel
theorem dX7_isOutside_6 : decode cX7_isOutside 6 = .ok (.iload_n 2, 1) := by decide +kernel
theorem dX7_isOutside_7 : decode cX7_isOutside 7 = .ok (.if_icmp .le 7, 3) := by decide +kernel
theorem dX7_isOutside_10 : decode cX7_isOutside 10 = .ok (.iconst 1, 1) := by decide +kernel
theorem dX7_isOutside_11 : decode cX7_isOutside 11 = .ok (.goto 4, 3) := by decide +kernel
theorem dX7_isOutside_14 : decode cX7_isOutside 14 = .ok (.iconst 0, 1) := by decide +kernel
theorem dX7_isOutside_15 : decode cX7_isOutside 15 = .ok (.ireturn, 1) := by decide +kernel
theorem dX7_errorOf_0 : decode cX7_errorOf 0 = .ok (.iload_n 0, 1) := by decide +kernel
theorem dX7_errorOf_1 : decode cX7_errorOf 1 = .ok (.ifCond .ne 5, 3) := by decide +kernel
theorem dX7_errorOf_4 : decode cX7_errorOf 4 = .ok (.iconst 0, 1) := by decide +kernel
theorem dX7_errorOf_5 : decode cX7_errorOf 5 = .ok (.ireturn, 1) := by decide +kernel
theorem dX7_errorOf_6 : decode cX7_errorOf 6 = .ok (.iload_n 0, 1) := by decide +kernel
theorem dX7_errorOf_7 : decode cX7_errorOf 7 = .ok (.iconst 1, 1) := by decide +kernel
theorem dX7_errorOf_8 : decode cX7_errorOf 8 = .ok (.if_icmp .ne 8, 3) := by decide +kernel
theorem dX7_errorOf_11 : decode cX7_errorOf 11 = .ok (.ldc 41, 2) := by decide +kernel
theorem dX7_errorOf_13 : decode cX7_errorOf 13 = .ok (.goto 5, 3) := by decide +kernel
theorem dX7_errorOf_16 : decode cX7_errorOf 16 = .ok (.ldc 102, 2) := by decide +kernel
theorem dX7_errorOf_18 : decode cX7_errorOf 18 = .ok (.ireturn, 1) := by decide +kernel
theorem dX7_topOfSetting_0 : decode cX7_topOfSetting 0 = .ok (.iload_n 0, 1) := by decide +kernel
theorem dX7_topOfSetting_1 : decode cX7_topOfSetting 1 = .ok (.lookupswitch 34 #[(0, 27), (1, 31)], 27) := by decide +kernel
theorem dX7_topOfSetting_28 : decode cX7_topOfSetting 28 = .ok (.sipush 200, 3) := by decide +kernel
theorem dX7_topOfSetting_31 : decode cX7_topOfSetting 31 = .ok (.ireturn, 1) := by decide +kernel
theorem dX7_topOfSetting_32 : decode cX7_topOfSetting 32 = .ok (.bipush 100, 2) := by decide +kernel
theorem dX7_topOfSetting_34 : decode cX7_topOfSetting 34 = .ok (.ireturn, 1) := by decide +kernel
theorem dX7_topOfSetting_35 : decode cX7_topOfSetting 35 = .ok (.bipush 50, 2) := by decide +kernel
theorem dX7_topOfSetting_37 : decode cX7_topOfSetting 37 = .ok (.ireturn, 1) := by decide +kernel
theorem dX7_bitsOf_0 : decode cX7_bitsOf 0 = .ok (.fload_n 0, 1) := by decide +kernel
theorem dX7_bitsOf_1 : decode cX7_bitsOf 1 = .ok (.fconst 0, 1) := by decide +kernel
theorem dX7_bitsOf_2 : decode cX7_bitsOf 2 = .ok (.fcmp .g, 1) := by decide +kernel
theorem dX7_bitsOf_3 : decode cX7_bitsOf 3 = .ok (.ifCond .gt 5, 3) := by decide +kernel
theorem dX7_bitsOf_6 : decode cX7_bitsOf 6 = .ok (.iconst 0, 1) := by decide +kernel
theorem dX7_bitsOf_7 : decode cX7_bitsOf 7 = .ok (.ireturn, 1) := by decide +kernel
theorem dX7_bitsOf_8 : decode cX7_bitsOf 8 = .ok (.fload_n 0, 1) := by decide +kernel
theorem dX7_bitsOf_9 : decode cX7_bitsOf 9 = .ok (.fstore_n 1, 1) := by decide +kernel
theorem dX7_bitsOf_10 : decode cX7_bitsOf 10 = .ok (.bipush 127, 2) := by decide +kernel
theorem dX7_bitsOf_12 : decode cX7_bitsOf 12 = .ok (.istore_n 2, 1) := by decide +kernel
theorem dX7_bitsOf_13 : decode cX7_bitsOf 13 = .ok (.iconst 0, 1) := by decide +kernel
theorem dX7_bitsOf_14 : decode cX7_bitsOf 14 = .ok (.istore_n 3, 1) := by decide +kernel
theorem dX7_bitsOf_15 : decode cX7_bitsOf 15 = .ok (.iload_n 3, 1) := by decide +kernel
theorem dX7_bitsOf_16 : decode cX7_bitsOf 16 = .ok (.bipush 127, 2) := by decide +kernel
theorem dX7_bitsOf_18 : decode cX7_bitsOf 18 = .ok (.if_icmp .ge 24, 3) := by decide +kernel
theorem dX7_bitsOf_21 : decode cX7_bitsOf 21 = .ok (.fload_n 1, 1) := by decide +kernel
theorem dX7_bitsOf_22 : decode cX7_bitsOf 22 = .ok (.fconst 2, 1) := by decide +kernel
theorem dX7_bitsOf_23 : decode cX7_bitsOf 23 = .ok (.fcmp .l, 1) := by decide +kernel
theorem dX7_bitsOf_24 : decode cX7_bitsOf 24 = .ok (.ifCond .lt 18, 3) := by decide +kernel
theorem dX7_bitsOf_27 : decode cX7_bitsOf 27 = .ok (.fload_n 1, 1) := by decide +kernel
theorem dX7_bitsOf_28 : decode cX7_bitsOf 28 = .ok (.ldc_w 270, 3) := by decide +kernel
theorem dX7_bitsOf_31 : decode cX7_bitsOf 31 = .ok (.fmul, 1) := by decide +kernel
theorem dX7_bitsOf_32 : decode cX7_bitsOf 32 = .ok (.fstore_n 1, 1) := by decide +kernel
theorem dX7_bitsOf_33 : decode cX7_bitsOf 33 = .ok (.iinc 2 1, 3) := by decide +kernel
theorem dX7_bitsOf_36 : decode cX7_bitsOf 36 = .ok (.iinc 3 1, 3) := by decide +kernel
theorem dX7_bitsOf_39 : decode cX7_bitsOf 39 = .ok (.goto (-24), 3) := by decide +kernel
theorem dX7_bitsOf_42 : decode cX7_bitsOf 42 = .ok (.iconst 0, 1) := by decide +kernel
theorem dX7_bitsOf_43 : decode cX7_bitsOf 43 = .ok (.istore_n 3, 1) := by decide +kernel
theorem dX7_bitsOf_44 : decode cX7_bitsOf 44 = .ok (.iload_n 3, 1) := by decide +kernel
theorem dX7_bitsOf_45 : decode cX7_bitsOf 45 = .ok (.bipush 126, 2) := by decide +kernel
theorem dX7_bitsOf_47 : decode cX7_bitsOf 47 = .ok (.if_icmp .ge 22, 3) := by decide +kernel
theorem dX7_bitsOf_50 : decode cX7_bitsOf 50 = .ok (.fload_n 1, 1) := by decide +kernel
theorem dX7_bitsOf_51 : decode cX7_bitsOf 51 = .ok (.fconst 1, 1) := by decide +kernel
theorem dX7_bitsOf_52 : decode cX7_bitsOf 52 = .ok (.fcmp .g, 1) := by decide +kernel
theorem dX7_bitsOf_53 : decode cX7_bitsOf 53 = .ok (.ifCond .ge 16, 3) := by decide +kernel
theorem dX7_bitsOf_56 : decode cX7_bitsOf 56 = .ok (.fload_n 1, 1) := by decide +kernel
theorem dX7_bitsOf_57 : decode cX7_bitsOf 57 = .ok (.fconst 2, 1) := by decide +kernel
theorem dX7_bitsOf_58 : decode cX7_bitsOf 58 = .ok (.fmul, 1) := by decide +kernel
theorem dX7_bitsOf_59 : decode cX7_bitsOf 59 = .ok (.fstore_n 1, 1) := by decide +kernel
theorem dX7_bitsOf_60 : decode cX7_bitsOf 60 = .ok (.iinc 2 (-1), 3) := by decide +kernel
theorem dX7_bitsOf_63 : decode cX7_bitsOf 63 = .ok (.iinc 3 1, 3) := by decide +kernel
theorem dX7_bitsOf_66 : decode cX7_bitsOf 66 = .ok (.goto (-22), 3) := by decide +kernel
theorem dX7_bitsOf_69 : decode cX7_bitsOf 69 = .ok (.iload_n 2, 1) := by decide +kernel
theorem dX7_bitsOf_70 : decode cX7_bitsOf 70 = .ok (.bipush 23, 2) := by decide +kernel
theorem dX7_bitsOf_72 : decode cX7_bitsOf 72 = .ok (.ishl, 1) := by decide +kernel
theorem dX7_bitsOf_73 : decode cX7_bitsOf 73 = .ok (.fload_n 1, 1) := by decide +kernel
theorem dX7_bitsOf_74 : decode cX7_bitsOf 74 = .ok (.fconst 1, 1) := by decide +kernel
theorem dX7_bitsOf_75 : decode cX7_bitsOf 75 = .ok (.fsub, 1) := by decide +kernel
theorem dX7_bitsOf_76 : decode cX7_bitsOf 76 = .ok (.ldc_w 271, 3) := by decide +kernel
theorem dX7_bitsOf_79 : decode cX7_bitsOf 79 = .ok (.fmul, 1) := by decide +kernel
theorem dX7_bitsOf_80 : decode cX7_bitsOf 80 = .ok (.f2i, 1) := by decide +kernel
theorem dX7_bitsOf_81 : decode cX7_bitsOf 81 = .ok (.iadd, 1) := by decide +kernel
theorem dX7_bitsOf_82 : decode cX7_bitsOf 82 = .ok (.ireturn, 1) := by decide +kernel
theorem dX8_init_0 : decode cX8_init 0 = .ok (.aload_n 0, 1) := by decide +kernel
theorem dX8_init_1 : decode cX8_init 1 = .ok (.invokespecial 1, 3) := by decide +kernel
theorem dX8_init_4 : decode cX8_init 4 = .ok (.aload_n 0, 1) := by decide +kernel
theorem dX8_init_5 : decode cX8_init 5 = .ok (.sipush 2086, 3) := by decide +kernel
theorem dX8_init_8 : decode cX8_init 8 = .ok (.newarray .int, 2) := by decide +kernel
theorem dX8_init_10 : decode cX8_init 10 = .ok (.putfield 7, 3) := by decide +kernel
theorem dX8_init_13 : decode cX8_init 13 = .ok (.aload_n 0, 1) := by decide +kernel
theorem dX8_init_14 : decode cX8_init 14 = .ok (.sipush 10430, 3) := by decide +kernel
theorem dX8_init_17 : decode cX8_init 17 = .ok (.newarray .int, 2) := by decide +kernel
theorem dX8_init_19 : decode cX8_init 19 = .ok (.putfield 13, 3) := by decide +kernel
theorem dX8_init_22 : decode cX8_init 22 = .ok (.aload_n 0, 1) := by decide +kernel
theorem dX8_init_23 : decode cX8_init 23 = .ok (.iconst 5, 1) := by decide +kernel
theorem dX8_init_24 : decode cX8_init 24 = .ok (.newarray .long, 2) := by decide +kernel
theorem dX8_init_26 : decode cX8_init 26 = .ok (.putfield 16, 3) := by decide +kernel
theorem dX8_init_29 : decode cX8_init 29 = .ok (.aload_n 0, 1) := by decide +kernel
theorem dX8_init_30 : decode cX8_init 30 = .ok (.bipush 80, 2) := by decide +kernel
theorem dX8_init_32 : decode cX8_init 32 = .ok (.newarray .char, 2) := by decide +kernel
theorem dX8_init_34 : decode cX8_init 34 = .ok (.putfield 20, 3) := by decide +kernel
theorem dX8_init_37 : decode cX8_init 37 = .ok (.aload_n 0, 1) := by decide +kernel
theorem dX8_init_38 : decode cX8_init 38 = .ok (.sipush 2086, 3) := by decide +kernel
theorem dX8_init_41 : decode cX8_init 41 = .ok (.newarray .int, 2) := by decide +kernel
theorem dX8_init_43 : decode cX8_init 43 = .ok (.putfield 24, 3) := by decide +kernel
theorem dX8_init_46 : decode cX8_init 46 = .ok (.aload_n 0, 1) := by decide +kernel
theorem dX8_init_47 : decode cX8_init 47 = .ok (.bipush 12, 2) := by decide +kernel
theorem dX8_init_49 : decode cX8_init 49 = .ok (.newarray .int, 2) := by decide +kernel
theorem dX8_init_51 : decode cX8_init 51 = .ok (.putfield 27, 3) := by decide +kernel
theorem dX8_init_54 : decode cX8_init 54 = .ok (.aload_n 0, 1) := by decide +kernel
theorem dX8_init_55 : decode cX8_init 55 = .ok (.bipush 6, 2) := by decide +kernel
theorem dX8_init_57 : decode cX8_init 57 = .ok (.newarray .int, 2) := by decide +kernel
theorem dX8_init_59 : decode cX8_init 59 = .ok (.putfield 30, 3) := by decide +kernel
theorem dX8_init_62 : decode cX8_init 62 = .ok (.aload_n 0, 1) := by decide +kernel
theorem dX8_init_63 : decode cX8_init 63 = .ok (.getfield 7, 3) := by decide +kernel
theorem dX8_init_66 : decode cX8_init 66 = .ok (.bipush 6, 2) := by decide +kernel
theorem dX8_init_68 : decode cX8_init 68 = .ok (.iconst 5, 1) := by decide +kernel
theorem dX8_init_69 : decode cX8_init 69 = .ok (.iastore, 1) := by decide +kernel
theorem dX8_init_70 : decode cX8_init 70 = .ok (.aload_n 0, 1) := by decide +kernel
theorem dX8_init_71 : decode cX8_init 71 = .ok (.getfield 7, 3) := by decide +kernel
theorem dX8_init_74 : decode cX8_init 74 = .ok (.bipush 7, 2) := by decide +kernel
theorem dX8_init_76 : decode cX8_init 76 = .ok (.bipush 10, 2) := by decide +kernel
theorem dX8_init_78 : decode cX8_init 78 = .ok (.iastore, 1) := by decide +kernel
theorem dX8_init_79 : decode cX8_init 79 = .ok (.aload_n 0, 1) := by decide +kernel
theorem dX8_init_80 : decode cX8_init 80 = .ok (.getfield 7, 3) := by decide +kernel
theorem dX8_init_83 : decode cX8_init 83 = .ok (.bipush 8, 2) := by decide +kernel
theorem dX8_init_85 : decode cX8_init 85 = .ok (.iconst 2, 1) := by decide +kernel
theorem dX8_init_86 : decode cX8_init 86 = .ok (.iastore, 1) := by decide +kernel
theorem dX8_init_87 : decode cX8_init 87 = .ok (.aload_n 0, 1) := by decide +kernel
theorem dX8_init_88 : decode cX8_init 88 = .ok (.getfield 7, 3) := by decide +kernel
theorem dX8_init_91 : decode cX8_init 91 = .ok (.bipush 9, 2) := by decide +kernel
theorem dX8_init_93 : decode cX8_init 93 = .ok (.iconst 2, 1) := by decide +kernel
theorem dX8_init_94 : decode cX8_init 94 = .ok (.iastore, 1) := by decide +kernel
theorem dX8_init_95 : decode cX8_init 95 = .ok (.aload_n 0, 1) := by decide +kernel
theorem dX8_init_96 : decode cX8_init 96 = .ok (.getfield 7, 3) := by decide +kernel
theorem dX8_init_99 : decode cX8_init 99 = .ok (.bipush 11, 2) := by decide +kernel
theorem dX8_init_101 : decode cX8_init 101 = .ok (.sipush 1000, 3) := by decide +kernel
theorem dX8_init_104 : decode cX8_init 104 = .ok (.iastore, 1) := by decide +kernel
theorem dX8_init_105 : decode cX8_init 105 = .ok (.aload_n 0, 1) := by decide +kernel
theorem dX8_init_106 : decode cX8_init 106 = .ok (.getfield 7, 3) := by decide +kernel
theorem dX8_init_109 : decode cX8_init 109 = .ok (.bipush 19, 2) := by decide +kernel
theorem dX8_init_111 : decode cX8_init 111 = .ok (.sipush 10000, 3) := by decide +kernel
theorem dX8_init_114 : decode cX8_init 114 = .ok (.iastore, 1) := by decide +kernel
theorem dX8_init_115 : decode cX8_init 115 = .ok (.aload_n 0, 1) := by decide +kernel
theorem dX8_init_116 : decode cX8_init 116 = .ok (.getfield 7, 3) := by decide +kernel
theorem dX8_init_119 : decode cX8_init 119 = .ok (.bipush 26, 2) := by decide +kernel
theorem dX8_init_121 : decode cX8_init 121 = .ok (.iconst 2, 1) := by decide +kernel
theorem dX8_init_122 : decode cX8_init 122 = .ok (.iastore, 1) := by decide +kernel
theorem dX8_init_123 : decode cX8_init 123 = .ok (.aload_n 0, 1) := by decide +kernel
theorem dX8_init_124 : decode cX8_init 124 = .ok (.getfield 7, 3) := by decide +kernel
theorem dX8_init_127 : decode cX8_init 127 = .ok (.bipush 28, 2) := by decide +kernel
theorem dX8_init_129 : decode cX8_init 129 = .ok (.sipush 10000, 3) := by decide +kernel
theorem dX8_init_132 : decode cX8_init 132 = .ok (.iastore, 1) := by decide +kernel
theorem dX8_init_133 : decode cX8_init 133 = .ok (.aload_n 0, 1) := by decide +kernel
theorem dX8_init_134 : decode cX8_init 134 = .ok (.getfield 7, 3) := by decide +kernel
theorem dX8_init_137 : decode cX8_init 137 = .ok (.bipush 35, 2) := by decide +kernel
theorem dX8_init_139 : decode cX8_init 139 = .ok (.sipush 1000, 3) := by decide +kernel
theorem dX8_init_142 : decode cX8_init 142 = .ok (.iastore, 1) := by decide +kernel
theorem dX8_init_143 : decode cX8_init 143 = .ok (.return_, 1) := by decide +kernel
theorem dX8_in_0 : decode cX8_in 0 = .ok (.iload_n 0, 1) := by decide +kernel
theorem dX8_in_1 : decode cX8_in 1 = .ok (.iload_n 1, 1) := by decide +kernel
theorem dX8_in_2 : decode cX8_in 2 = .ok (.if_icmp .lt 12, 3) := by decide +kernel
theorem dX8_in_5 : decode cX8_in 5 = .ok (.iload_n 0, 1) := by decide +kernel
theorem dX8_in_6 : decode cX8_in 6 = .ok (.iload_n 2, 1) := by decide +kernel
theorem dX8_in_7 : decode cX8_in 7 = .ok (.if_icmp .gt 7, 3) := by decide +kernel
theorem dX8_in_10 : decode cX8_in 10 = .ok (.iconst 1, 1) := by decide +kernel
theorem dX8_in_11 : decode cX8_in 11 = .ok (.goto 4, 3) := by decide +kernel
theorem dX8_in_14 : decode cX8_in 14 = .ok (.iconst 0, 1) := by decide +kernel
theorem dX8_in_15 : decode cX8_in 15 = .ok (.ireturn, 1) := by decide +kernel
theorem dX8_down_0 : decode cX8_down 0 = .ok (.lload_n 0, 1) := by decide +kernel
theorem dX8_down_1 : decode cX8_down 1 = .ok (.lload_n 2, 1) := by decide +kernel
theorem dX8_down_2 : decode cX8_down 2 = .ok (.ldiv, 1) := by decide +kernel
theorem dX8_down_3 : decode cX8_down 3 = .ok (.lstore 4, 2) := by decide +kernel
theorem dX8_down_5 : decode cX8_down 5 = .ok (.lload 4, 2) := by decide +kernel
theorem dX8_down_7 : decode cX8_down 7 = .ok (.lload_n 2, 1) := by decide +kernel
theorem dX8_down_8 : decode cX8_down 8 = .ok (.lmul, 1) := by decide +kernel
theorem dX8_down_9 : decode cX8_down 9 = .ok (.lload_n 0, 1) := by decide +kernel
theorem dX8_down_10 : decode cX8_down 10 = .ok (.lcmp, 1) := by decide +kernel
theorem dX8_down_11 : decode cX8_down 11 = .ok (.ifCond .le 10, 3) := by decide +kernel
theorem dX8_down_14 : decode cX8_down 14 = .ok (.lload 4, 2) := by decide +kernel
theorem dX8_down_16 : decode cX8_down 16 = .ok (.lconst 1, 1) := by decide +kernel
theorem dX8_down_17 : decode cX8_down 17 = .ok (.lsub, 1) := by decide +kernel
theorem dX8_down_18 : decode cX8_down 18 = .ok (.goto 5, 3) := by decide +kernel
theorem dX8_down_21 : decode cX8_down 21 = .ok (.lload 4, 2) := by decide +kernel
theorem dX8_down_23 : decode cX8_down 23 = .ok (.l2i, 1) := by decide +kernel
theorem dX8_down_24 : decode cX8_down 24 = .ok (.ireturn, 1) := by decide +kernel
theorem dX8_records_0 : decode cX8_records 0 = .ok (.aload_n 0, 1) := by decide +kernel
theorem dX8_records_1 : decode cX8_records 1 = .ok (.getfield 33, 3) := by decide +kernel
theorem dX8_records_4 : decode cX8_records 4 = .ok (.iconst 5, 1) := by decide +kernel
theorem dX8_records_5 : decode cX8_records 5 = .ok (.if_icmp .ne 71, 3) := by decide +kernel
theorem dX8_records_8 : decode cX8_records 8 = .ok (.iconst 0, 1) := by decide +kernel
theorem dX8_records_9 : decode cX8_records 9 = .ok (.istore_n 1, 1) := by decide +kernel
theorem dX8_records_10 : decode cX8_records 10 = .ok (.iload_n 1, 1) := by decide +kernel
theorem dX8_records_11 : decode cX8_records 11 = .ok (.sipush 8344, 3) := by decide +kernel
theorem dX8_records_14 : decode cX8_records 14 = .ok (.if_icmp .ge 25, 3) := by decide +kernel
theorem dX8_records_17 : decode cX8_records 17 = .ok (.aload_n 0, 1) := by decide +kernel
theorem dX8_records_18 : decode cX8_records 18 = .ok (.getfield 13, 3) := by decide +kernel
theorem dX8_records_21 : decode cX8_records 21 = .ok (.iload_n 1, 1) := by decide +kernel
theorem dX8_records_22 : decode cX8_records 22 = .ok (.aload_n 0, 1) := by decide +kernel
theorem dX8_records_23 : decode cX8_records 23 = .ok (.getfield 13, 3) := by decide +kernel
theorem dX8_records_26 : decode cX8_records 26 = .ok (.iload_n 1, 1) := by decide +kernel
theorem dX8_records_27 : decode cX8_records 27 = .ok (.sipush 2086, 3) := by decide +kernel
theorem dX8_records_30 : decode cX8_records 30 = .ok (.iadd, 1) := by decide +kernel
theorem dX8_records_31 : decode cX8_records 31 = .ok (.iaload, 1) := by decide +kernel
theorem dX8_records_32 : decode cX8_records 32 = .ok (.iastore, 1) := by decide +kernel
theorem dX8_records_33 : decode cX8_records 33 = .ok (.iinc 1 1, 3) := by decide +kernel
theorem dX8_records_36 : decode cX8_records 36 = .ok (.goto (-26), 3) := by decide +kernel
theorem dX8_records_39 : decode cX8_records 39 = .ok (.iconst 0, 1) := by decide +kernel
theorem dX8_records_40 : decode cX8_records 40 = .ok (.istore_n 1, 1) := by decide +kernel
theorem dX8_records_41 : decode cX8_records 41 = .ok (.iload_n 1, 1) := by decide +kernel
theorem dX8_records_42 : decode cX8_records 42 = .ok (.iconst 4, 1) := by decide +kernel
theorem dX8_records_43 : decode cX8_records 43 = .ok (.if_icmp .ge 23, 3) := by decide +kernel
theorem dX8_records_46 : decode cX8_records 46 = .ok (.aload_n 0, 1) := by decide +kernel
theorem dX8_records_47 : decode cX8_records 47 = .ok (.getfield 16, 3) := by decide +kernel
theorem dX8_records_50 : decode cX8_records 50 = .ok (.iload_n 1, 1) := by decide +kernel
theorem dX8_records_51 : decode cX8_records 51 = .ok (.aload_n 0, 1) := by decide +kernel
theorem dX8_records_52 : decode cX8_records 52 = .ok (.getfield 16, 3) := by decide +kernel
theorem dX8_records_55 : decode cX8_records 55 = .ok (.iload_n 1, 1) := by decide +kernel
theorem dX8_records_56 : decode cX8_records 56 = .ok (.iconst 1, 1) := by decide +kernel
theorem dX8_records_57 : decode cX8_records 57 = .ok (.iadd, 1) := by decide +kernel
theorem dX8_records_58 : decode cX8_records 58 = .ok (.laload, 1) := by decide +kernel
theorem dX8_records_59 : decode cX8_records 59 = .ok (.lastore, 1) := by decide +kernel
theorem dX8_records_60 : decode cX8_records 60 = .ok (.iinc 1 1, 3) := by decide +kernel
theorem dX8_records_63 : decode cX8_records 63 = .ok (.goto (-22), 3) := by decide +kernel
theorem dX8_records_66 : decode cX8_records 66 = .ok (.aload_n 0, 1) := by decide +kernel
theorem dX8_records_67 : decode cX8_records 67 = .ok (.dup, 1) := by decide +kernel
theorem dX8_records_68 : decode cX8_records 68 = .ok (.getfield 33, 3) := by decide +kernel
theorem dX8_records_71 : decode cX8_records 71 = .ok (.iconst 1, 1) := by decide +kernel
theorem dX8_records_72 : decode cX8_records 72 = .ok (.isub, 1) := by decide +kernel
theorem dX8_records_73 : decode cX8_records 73 = .ok (.putfield 33, 3) := by decide +kernel
theorem dX8_records_76 : decode cX8_records 76 = .ok (.iconst 0, 1) := by decide +kernel
theorem dX8_records_77 : decode cX8_records 77 = .ok (.istore_n 1, 1) := by decide +kernel
theorem dX8_records_78 : decode cX8_records 78 = .ok (.iload_n 1, 1) := by decide +kernel
theorem dX8_records_79 : decode cX8_records 79 = .ok (.sipush 2086, 3) := by decide +kernel
theorem dX8_records_82 : decode cX8_records 82 = .ok (.if_icmp .ge 30, 3) := by decide +kernel
theorem dX8_records_85 : decode cX8_records 85 = .ok (.aload_n 0, 1) := by decide +kernel
theorem dX8_records_86 : decode cX8_records 86 = .ok (.getfield 13, 3) := by decide +kernel
theorem dX8_records_89 : decode cX8_records 89 = .ok (.sipush 2086, 3) := by decide +kernel
theorem dX8_records_92 : decode cX8_records 92 = .ok (.aload_n 0, 1) := by decide +kernel
theorem dX8_records_93 : decode cX8_records 93 = .ok (.getfield 33, 3) := by decide +kernel
theorem dX8_records_96 : decode cX8_records 96 = .ok (.imul, 1) := by decide +kernel
theorem dX8_records_97 : decode cX8_records 97 = .ok (.iload_n 1, 1) := by decide +kernel
theorem dX8_records_98 : decode cX8_records 98 = .ok (.iadd, 1) := by decide +kernel
theorem dX8_records_99 : decode cX8_records 99 = .ok (.aload_n 0, 1) := by decide +kernel
theorem dX8_records_100 : decode cX8_records 100 = .ok (.getfield 7, 3) := by decide +kernel
theorem dX8_records_103 : decode cX8_records 103 = .ok (.iload_n 1, 1) := by decide +kernel
theorem dX8_records_104 : decode cX8_records 104 = .ok (.iaload, 1) := by decide +kernel
theorem dX8_records_105 : decode cX8_records 105 = .ok (.iastore, 1) := by decide +kernel
theorem dX8_records_106 : decode cX8_records 106 = .ok (.iinc 1 1, 3) := by decide +kernel
theorem dX8_records_109 : decode cX8_records 109 = .ok (.goto (-31), 3) := by decide +kernel
theorem dX8_records_112 : decode cX8_records 112 = .ok (.aload_n 0, 1) := by decide +kernel
theorem dX8_records_113 : decode cX8_records 113 = .ok (.getfield 16, 3) := by decide +kernel
theorem dX8_records_116 : decode cX8_records 116 = .ok (.aload_n 0, 1) := by decide +kernel
theorem dX8_records_117 : decode cX8_records 117 = .ok (.getfield 33, 3) := by decide +kernel
theorem dX8_records_120 : decode cX8_records 120 = .ok (.aload_n 0, 1) := by decide +kernel
theorem dX8_records_121 : decode cX8_records 121 = .ok (.getfield 37, 3) := by decide +kernel
theorem dX8_records_124 : decode cX8_records 124 = .ok (.lastore, 1) := by decide +kernel
theorem dX8_records_125 : decode cX8_records 125 = .ok (.aload_n 0, 1) := by decide +kernel
theorem dX8_records_126 : decode cX8_records 126 = .ok (.dup, 1) := by decide +kernel
theorem dX8_records_127 : decode cX8_records 127 = .ok (.getfield 33, 3) := by decide +kernel
theorem dX8_records_130 : decode cX8_records 130 = .ok (.iconst 1, 1) := by decide +kernel
theorem dX8_records_131 : decode cX8_records 131 = .ok (.iadd, 1) := by decide +kernel
theorem dX8_records_132 : decode cX8_records 132 = .ok (.putfield 33, 3) := by decide +kernel
theorem dX8_records_135 : decode cX8_records 135 = .ok (.return_, 1) := by decide +kernel
theorem dX8_curveAt_0 : decode cX8_curveAt 0 = .ok (.iconst 0, 1) := by decide +kernel
theorem dX8_curveAt_1 : decode cX8_curveAt 1 = .ok (.istore_n 3, 1) := by decide +kernel
theorem dX8_curveAt_2 : decode cX8_curveAt 2 = .ok (.iload_n 3, 1) := by decide +kernel
theorem dX8_curveAt_3 : decode cX8_curveAt 3 = .ok (.iconst 2, 1) := by decide +kernel
theorem dX8_curveAt_4 : decode cX8_curveAt 4 = .ok (.iadd, 1) := by decide +kernel
theorem dX8_curveAt_5 : decode cX8_curveAt 5 = .ok (.aload_n 0, 1) := by decide +kernel
theorem dX8_curveAt_6 : decode cX8_curveAt 6 = .ok (.getfield 7, 3) := by decide +kernel
theorem dX8_curveAt_9 : decode cX8_curveAt 9 = .ok (.bipush 9, 2) := by decide +kernel
theorem dX8_curveAt_11 : decode cX8_curveAt 11 = .ok (.iaload, 1) := by decide +kernel
theorem dX8_curveAt_12 : decode cX8_curveAt 12 = .ok (.if_icmp .ge 26, 3) := by decide +kernel
theorem dX8_curveAt_15 : decode cX8_curveAt 15 = .ok (.iload_n 2, 1) := by decide +kernel
theorem dX8_curveAt_16 : decode cX8_curveAt 16 = .ok (.aload_n 0, 1) := by decide +kernel
theorem dX8_curveAt_17 : decode cX8_curveAt 17 = .ok (.getfield 7, 3) := by decide +kernel
theorem dX8_curveAt_20 : decode cX8_curveAt 20 = .ok (.bipush 10, 2) := by decide +kernel
theorem dX8_curveAt_22 : decode cX8_curveAt 22 = .ok (.iload_n 3, 1) := by decide +kernel
theorem dX8_curveAt_23 : decode cX8_curveAt 23 = .ok (.iadd, 1) := by decide +kernel
theorem dX8_curveAt_24 : decode cX8_curveAt 24 = .ok (.iconst 1, 1) := by decide +kernel
theorem dX8_curveAt_25 : decode cX8_curveAt 25 = .ok (.iadd, 1) := by decide +kernel
theorem dX8_curveAt_26 : decode cX8_curveAt 26 = .ok (.iaload, 1) := by decide +kernel
theorem dX8_curveAt_27 : decode cX8_curveAt 27 = .ok (.imul, 1) := by decide +kernel
theorem dX8_curveAt_28 : decode cX8_curveAt 28 = .ok (.iload_n 1, 1) := by decide +kernel
theorem dX8_curveAt_29 : decode cX8_curveAt 29 = .ok (.if_icmp .gt 9, 3) := by decide +kernel
theorem dX8_curveAt_32 : decode cX8_curveAt 32 = .ok (.iinc 3 1, 3) := by decide +kernel
theorem dX8_curveAt_35 : decode cX8_curveAt 35 = .ok (.goto (-33), 3) := by decide +kernel
theorem dX8_curveAt_38 : decode cX8_curveAt 38 = .ok (.iload_n 2, 1) := by decide +kernel
theorem dX8_curveAt_39 : decode cX8_curveAt 39 = .ok (.aload_n 0, 1) := by decide +kernel
theorem dX8_curveAt_40 : decode cX8_curveAt 40 = .ok (.getfield 7, 3) := by decide +kernel
theorem dX8_curveAt_43 : decode cX8_curveAt 43 = .ok (.bipush 10, 2) := by decide +kernel
theorem dX8_curveAt_45 : decode cX8_curveAt 45 = .ok (.iload_n 3, 1) := by decide +kernel
theorem dX8_curveAt_46 : decode cX8_curveAt 46 = .ok (.iadd, 1) := by decide +kernel
theorem dX8_curveAt_47 : decode cX8_curveAt 47 = .ok (.iaload, 1) := by decide +kernel
theorem dX8_curveAt_48 : decode cX8_curveAt 48 = .ok (.imul, 1) := by decide +kernel
theorem dX8_curveAt_49 : decode cX8_curveAt 49 = .ok (.istore 4, 2) := by decide +kernel
theorem dX8_curveAt_51 : decode cX8_curveAt 51 = .ok (.iload_n 2, 1) := by decide +kernel
theorem dX8_curveAt_52 : decode cX8_curveAt 52 = .ok (.aload_n 0, 1) := by decide +kernel
theorem dX8_curveAt_53 : decode cX8_curveAt 53 = .ok (.getfield 7, 3) := by decide +kernel
theorem dX8_curveAt_56 : decode cX8_curveAt 56 = .ok (.bipush 18, 2) := by decide +kernel
theorem dX8_curveAt_58 : decode cX8_curveAt 58 = .ok (.iload_n 3, 1) := by decide +kernel
theorem dX8_curveAt_59 : decode cX8_curveAt 59 = .ok (.iadd, 1) := by decide +kernel
theorem dX8_curveAt_60 : decode cX8_curveAt 60 = .ok (.iaload, 1) := by decide +kernel
theorem dX8_curveAt_61 : decode cX8_curveAt 61 = .ok (.imul, 1) := by decide +kernel
theorem dX8_curveAt_62 : decode cX8_curveAt 62 = .ok (.istore 5, 2) := by decide +kernel
theorem dX8_curveAt_64 : decode cX8_curveAt 64 = .ok (.iload_n 2, 1) := by decide +kernel
theorem dX8_curveAt_65 : decode cX8_curveAt 65 = .ok (.aload_n 0, 1) := by decide +kernel
theorem dX8_curveAt_66 : decode cX8_curveAt 66 = .ok (.getfield 7, 3) := by decide +kernel
theorem dX8_curveAt_69 : decode cX8_curveAt 69 = .ok (.bipush 18, 2) := by decide +kernel
theorem dX8_curveAt_71 : decode cX8_curveAt 71 = .ok (.iload_n 3, 1) := by decide +kernel
theorem dX8_curveAt_72 : decode cX8_curveAt 72 = .ok (.iadd, 1) := by decide +kernel
theorem dX8_curveAt_73 : decode cX8_curveAt 73 = .ok (.iconst 1, 1) := by decide +kernel
theorem dX8_curveAt_74 : decode cX8_curveAt 74 = .ok (.iadd, 1) := by decide +kernel
theorem dX8_curveAt_75 : decode cX8_curveAt 75 = .ok (.iaload, 1) := by decide +kernel
theorem dX8_curveAt_76 : decode cX8_curveAt 76 = .ok (.imul, 1) := by decide +kernel
theorem dX8_curveAt_77 : decode cX8_curveAt 77 = .ok (.iload 5, 2) := by decide +kernel
theorem dX8_curveAt_79 : decode cX8_curveAt 79 = .ok (.isub, 1) := by decide +kernel
theorem dX8_curveAt_80 : decode cX8_curveAt 80 = .ok (.i2l, 1) := by decide +kernel
theorem dX8_curveAt_81 : decode cX8_curveAt 81 = .ok (.lstore 6, 2) := by decide +kernel
theorem dX8_curveAt_83 : decode cX8_curveAt 83 = .ok (.iload 5, 2) := by decide +kernel
theorem dX8_curveAt_85 : decode cX8_curveAt 85 = .ok (.lload 6, 2) := by decide +kernel
theorem dX8_curveAt_87 : decode cX8_curveAt 87 = .ok (.iload_n 1, 1) := by decide +kernel
theorem dX8_curveAt_88 : decode cX8_curveAt 88 = .ok (.iload 4, 2) := by decide +kernel
theorem dX8_curveAt_90 : decode cX8_curveAt 90 = .ok (.isub, 1) := by decide +kernel
theorem dX8_curveAt_91 : decode cX8_curveAt 91 = .ok (.i2l, 1) := by decide +kernel
theorem dX8_curveAt_92 : decode cX8_curveAt 92 = .ok (.lmul, 1) := by decide +kernel
theorem dX8_curveAt_93 : decode cX8_curveAt 93 = .ok (.iload_n 2, 1) := by decide +kernel
theorem dX8_curveAt_94 : decode cX8_curveAt 94 = .ok (.aload_n 0, 1) := by decide +kernel
theorem dX8_curveAt_95 : decode cX8_curveAt 95 = .ok (.getfield 7, 3) := by decide +kernel
theorem dX8_curveAt_98 : decode cX8_curveAt 98 = .ok (.bipush 10, 2) := by decide +kernel
theorem dX8_curveAt_100 : decode cX8_curveAt 100 = .ok (.iload_n 3, 1) := by decide +kernel
theorem dX8_curveAt_101 : decode cX8_curveAt 101 = .ok (.iadd, 1) := by decide +kernel
theorem dX8_curveAt_102 : decode cX8_curveAt 102 = .ok (.iconst 1, 1) := by decide +kernel
theorem dX8_curveAt_103 : decode cX8_curveAt 103 = .ok (.iadd, 1) := by decide +kernel
theorem dX8_curveAt_104 : decode cX8_curveAt 104 = .ok (.iaload, 1) := by decide +kernel
theorem dX8_curveAt_105 : decode cX8_curveAt 105 = .ok (.imul, 1) := by decide +kernel
theorem dX8_curveAt_106 : decode cX8_curveAt 106 = .ok (.iload 4, 2) := by decide +kernel
theorem dX8_curveAt_108 : decode cX8_curveAt 108 = .ok (.isub, 1) := by decide +kernel
theorem dX8_curveAt_109 : decode cX8_curveAt 109 = .ok (.i2l, 1) := by decide +kernel
theorem dX8_curveAt_110 : decode cX8_curveAt 110 = .ok (.invokestatic 41, 3) := by decide +kernel
theorem dX8_curveAt_113 : decode cX8_curveAt 113 = .ok (.iadd, 1) := by decide +kernel
theorem dX8_curveAt_114 : decode cX8_curveAt 114 = .ok (.ireturn, 1) := by decide +kernel
theorem dX8_follows_0 : decode cX8_follows 0 = .ok (.aload_n 0, 1) := by decide +kernel
theorem dX8_follows_1 : decode cX8_follows 1 = .ok (.getfield 7, 3) := by decide +kernel
theorem dX8_follows_4 : decode cX8_follows 4 = .ok (.iconst 1, 1) := by decide +kernel
theorem dX8_follows_5 : decode cX8_follows 5 = .ok (.iaload, 1) := by decide +kernel
theorem dX8_follows_6 : decode cX8_follows 6 = .ok (.aload_n 0, 1) := by decide +kernel
theorem dX8_follows_7 : decode cX8_follows 7 = .ok (.getfield 7, 3) := by decide +kernel
theorem dX8_follows_10 : decode cX8_follows 10 = .ok (.iconst 2, 1) := by decide +kernel
theorem dX8_follows_11 : decode cX8_follows 11 = .ok (.iaload, 1) := by decide +kernel
theorem dX8_follows_12 : decode cX8_follows 12 = .ok (.iadd, 1) := by decide +kernel
theorem dX8_follows_13 : decode cX8_follows 13 = .ok (.istore_n 1, 1) := by decide +kernel
theorem dX8_follows_14 : decode cX8_follows 14 = .ok (.iload_n 1, 1) := by decide +kernel
theorem dX8_follows_15 : decode cX8_follows 15 = .ok (.aload_n 0, 1) := by decide +kernel
theorem dX8_follows_16 : decode cX8_follows 16 = .ok (.getfield 7, 3) := by decide +kernel
theorem dX8_follows_19 : decode cX8_follows 19 = .ok (.iconst 3, 1) := by decide +kernel
theorem dX8_follows_20 : decode cX8_follows 20 = .ok (.iaload, 1) := by decide +kernel
theorem dX8_follows_21 : decode cX8_follows 21 = .ok (.aload_n 0, 1) := by decide +kernel
theorem dX8_follows_22 : decode cX8_follows 22 = .ok (.getfield 7, 3) := by decide +kernel
theorem dX8_follows_25 : decode cX8_follows 25 = .ok (.bipush 6, 2) := by decide +kernel
theorem dX8_follows_27 : decode cX8_follows 27 = .ok (.iaload, 1) := by decide +kernel
theorem dX8_follows_28 : decode cX8_follows 28 = .ok (.iadd, 1) := by decide +kernel
theorem dX8_follows_29 : decode cX8_follows 29 = .ok (.if_icmp .le 21, 3) := by decide +kernel
theorem dX8_follows_32 : decode cX8_follows 32 = .ok (.aload_n 0, 1) := by decide +kernel
theorem dX8_follows_33 : decode cX8_follows 33 = .ok (.getfield 7, 3) := by decide +kernel
theorem dX8_follows_36 : decode cX8_follows 36 = .ok (.iconst 3, 1) := by decide +kernel
theorem dX8_follows_37 : decode cX8_follows 37 = .ok (.iload_n 1, 1) := by decide +kernel
theorem dX8_follows_38 : decode cX8_follows 38 = .ok (.aload_n 0, 1) := by decide +kernel
theorem dX8_follows_39 : decode cX8_follows 39 = .ok (.getfield 7, 3) := by decide +kernel
theorem dX8_follows_42 : decode cX8_follows 42 = .ok (.bipush 6, 2) := by decide +kernel
theorem dX8_follows_44 : decode cX8_follows 44 = .ok (.iaload, 1) := by decide +kernel
theorem dX8_follows_45 : decode cX8_follows 45 = .ok (.isub, 1) := by decide +kernel
theorem dX8_follows_46 : decode cX8_follows 46 = .ok (.iastore, 1) := by decide +kernel
theorem dX8_follows_47 : decode cX8_follows 47 = .ok (.goto 36, 3) := by decide +kernel
theorem dX8_follows_50 : decode cX8_follows 50 = .ok (.iload_n 1, 1) := by decide +kernel
theorem dX8_follows_51 : decode cX8_follows 51 = .ok (.aload_n 0, 1) := by decide +kernel
theorem dX8_follows_52 : decode cX8_follows 52 = .ok (.getfield 7, 3) := by decide +kernel
theorem dX8_follows_55 : decode cX8_follows 55 = .ok (.iconst 3, 1) := by decide +kernel
theorem dX8_follows_56 : decode cX8_follows 56 = .ok (.iaload, 1) := by decide +kernel
theorem dX8_follows_57 : decode cX8_follows 57 = .ok (.aload_n 0, 1) := by decide +kernel
theorem dX8_follows_58 : decode cX8_follows 58 = .ok (.getfield 7, 3) := by decide +kernel
theorem dX8_follows_61 : decode cX8_follows 61 = .ok (.bipush 6, 2) := by decide +kernel
theorem dX8_follows_63 : decode cX8_follows 63 = .ok (.iaload, 1) := by decide +kernel
theorem dX8_follows_64 : decode cX8_follows 64 = .ok (.isub, 1) := by decide +kernel
theorem dX8_follows_65 : decode cX8_follows 65 = .ok (.if_icmp .ge 18, 3) := by decide +kernel
theorem dX8_follows_68 : decode cX8_follows 68 = .ok (.aload_n 0, 1) := by decide +kernel
theorem dX8_follows_69 : decode cX8_follows 69 = .ok (.getfield 7, 3) := by decide +kernel
theorem dX8_follows_72 : decode cX8_follows 72 = .ok (.iconst 3, 1) := by decide +kernel
theorem dX8_follows_73 : decode cX8_follows 73 = .ok (.iload_n 1, 1) := by decide +kernel
theorem dX8_follows_74 : decode cX8_follows 74 = .ok (.aload_n 0, 1) := by decide +kernel
theorem dX8_follows_75 : decode cX8_follows 75 = .ok (.getfield 7, 3) := by decide +kernel
theorem dX8_follows_78 : decode cX8_follows 78 = .ok (.bipush 6, 2) := by decide +kernel
theorem dX8_follows_80 : decode cX8_follows 80 = .ok (.iaload, 1) := by decide +kernel
theorem dX8_follows_81 : decode cX8_follows 81 = .ok (.iadd, 1) := by decide +kernel
theorem dX8_follows_82 : decode cX8_follows 82 = .ok (.iastore, 1) := by decide +kernel
theorem dX8_follows_83 : decode cX8_follows 83 = .ok (.return_, 1) := by decide +kernel
theorem dX8_goes_0 : decode cX8_goes 0 = .ok (.iload_n 1, 1) := by decide +kernel
theorem dX8_goes_1 : decode cX8_goes 1 = .ok (.aload_n 0, 1) := by decide +kernel
theorem dX8_goes_2 : decode cX8_goes 2 = .ok (.getfield 7, 3) := by decide +kernel
theorem dX8_goes_5 : decode cX8_goes 5 = .ok (.iconst 0, 1) := by decide +kernel
theorem dX8_goes_6 : decode cX8_goes 6 = .ok (.iaload, 1) := by decide +kernel
theorem dX8_goes_7 : decode cX8_goes 7 = .ok (.if_icmp .ne 4, 3) := by decide +kernel
theorem dX8_goes_10 : decode cX8_goes 10 = .ok (.return_, 1) := by decide +kernel
theorem dX8_goes_11 : decode cX8_goes 11 = .ok (.iload_n 1, 1) := by decide +kernel
theorem dX8_goes_12 : decode cX8_goes 12 = .ok (.aload_n 0, 1) := by decide +kernel
theorem dX8_goes_13 : decode cX8_goes 13 = .ok (.getfield 7, 3) := by decide +kernel
theorem dX8_goes_16 : decode cX8_goes 16 = .ok (.iconst 0, 1) := by decide +kernel
theorem dX8_goes_17 : decode cX8_goes 17 = .ok (.iaload, 1) := by decide +kernel
theorem dX8_goes_18 : decode cX8_goes 18 = .ok (.if_icmp .le 7, 3) := by decide +kernel
theorem dX8_goes_21 : decode cX8_goes 21 = .ok (.iconst 1, 1) := by decide +kernel
theorem dX8_goes_22 : decode cX8_goes 22 = .ok (.goto 4, 3) := by decide +kernel
theorem dX8_goes_25 : decode cX8_goes 25 = .ok (.iconst (-1), 1) := by decide +kernel
theorem dX8_goes_26 : decode cX8_goes 26 = .ok (.istore_n 2, 1) := by decide +kernel
theorem dX8_goes_27 : decode cX8_goes 27 = .ok (.aload_n 0, 1) := by decide +kernel
theorem dX8_goes_28 : decode cX8_goes 28 = .ok (.getfield 7, 3) := by decide +kernel
theorem dX8_goes_31 : decode cX8_goes 31 = .ok (.iconst 4, 1) := by decide +kernel
theorem dX8_goes_32 : decode cX8_goes 32 = .ok (.iaload, 1) := by decide +kernel
theorem dX8_goes_33 : decode cX8_goes 33 = .ok (.iload_n 2, 1) := by decide +kernel
theorem dX8_goes_34 : decode cX8_goes 34 = .ok (.ineg, 1) := by decide +kernel
theorem dX8_goes_35 : decode cX8_goes 35 = .ok (.if_icmp .ne 54, 3) := by decide +kernel
theorem dX8_goes_38 : decode cX8_goes 38 = .ok (.aload_n 0, 1) := by decide +kernel
theorem dX8_goes_39 : decode cX8_goes 39 = .ok (.getfield 7, 3) := by decide +kernel
theorem dX8_goes_42 : decode cX8_goes 42 = .ok (.bipush 82, 2) := by decide +kernel
theorem dX8_goes_44 : decode cX8_goes 44 = .ok (.aload_n 0, 1) := by decide +kernel
theorem dX8_goes_45 : decode cX8_goes 45 = .ok (.getfield 7, 3) := by decide +kernel
theorem dX8_goes_48 : decode cX8_goes 48 = .ok (.iconst 5, 1) := by decide +kernel
theorem dX8_goes_49 : decode cX8_goes 49 = .ok (.iaload, 1) := by decide +kernel
theorem dX8_goes_50 : decode cX8_goes 50 = .ok (.iadd, 1) := by decide +kernel
theorem dX8_goes_51 : decode cX8_goes 51 = .ok (.aload_n 0, 1) := by decide +kernel
theorem dX8_goes_52 : decode cX8_goes 52 = .ok (.getfield 7, 3) := by decide +kernel
theorem dX8_goes_55 : decode cX8_goes 55 = .ok (.iconst 0, 1) := by decide +kernel
theorem dX8_goes_56 : decode cX8_goes 56 = .ok (.iaload, 1) := by decide +kernel
theorem dX8_goes_57 : decode cX8_goes 57 = .ok (.iastore, 1) := by decide +kernel
theorem dX8_goes_58 : decode cX8_goes 58 = .ok (.aload_n 0, 1) := by decide +kernel
theorem dX8_goes_59 : decode cX8_goes 59 = .ok (.getfield 7, 3) := by decide +kernel
theorem dX8_goes_62 : decode cX8_goes 62 = .ok (.sipush 1084, 3) := by decide +kernel
theorem dX8_goes_65 : decode cX8_goes 65 = .ok (.aload_n 0, 1) := by decide +kernel
theorem dX8_goes_66 : decode cX8_goes 66 = .ok (.getfield 7, 3) := by decide +kernel
theorem dX8_goes_69 : decode cX8_goes 69 = .ok (.iconst 5, 1) := by decide +kernel
theorem dX8_goes_70 : decode cX8_goes 70 = .ok (.iaload, 1) := by decide +kernel
theorem dX8_goes_71 : decode cX8_goes 71 = .ok (.iadd, 1) := by decide +kernel
theorem dX8_goes_72 : decode cX8_goes 72 = .ok (.aload_n 0, 1) := by decide +kernel
theorem dX8_goes_73 : decode cX8_goes 73 = .ok (.getfield 7, 3) := by decide +kernel
theorem dX8_goes_76 : decode cX8_goes 76 = .ok (.iconst 1, 1) := by decide +kernel
theorem dX8_goes_77 : decode cX8_goes 77 = .ok (.iaload, 1) := by decide +kernel
theorem dX8_goes_78 : decode cX8_goes 78 = .ok (.iastore, 1) := by decide +kernel
theorem dX8_goes_79 : decode cX8_goes 79 = .ok (.aload_n 0, 1) := by decide +kernel
theorem dX8_goes_80 : decode cX8_goes 80 = .ok (.getfield 7, 3) := by decide +kernel
theorem dX8_goes_83 : decode cX8_goes 83 = .ok (.iconst 5, 1) := by decide +kernel
theorem dX8_goes_84 : decode cX8_goes 84 = .ok (.dup2, 1) := by decide +kernel
theorem dX8_goes_85 : decode cX8_goes 85 = .ok (.iaload, 1) := by decide +kernel
theorem dX8_goes_86 : decode cX8_goes 86 = .ok (.iconst 1, 1) := by decide +kernel
theorem dX8_goes_87 : decode cX8_goes 87 = .ok (.iadd, 1) := by decide +kernel
theorem dX8_goes_88 : decode cX8_goes 88 = .ok (.iastore, 1) := by decide +kernel
theorem dX8_goes_89 : decode cX8_goes 89 = .ok (.aload_n 0, 1) := by decide +kernel
theorem dX8_goes_90 : decode cX8_goes 90 = .ok (.getfield 7, 3) := by decide +kernel
theorem dX8_goes_93 : decode cX8_goes 93 = .ok (.iconst 4, 1) := by decide +kernel
theorem dX8_goes_94 : decode cX8_goes 94 = .ok (.iload_n 2, 1) := by decide +kernel
theorem dX8_goes_95 : decode cX8_goes 95 = .ok (.iastore, 1) := by decide +kernel
theorem dX8_goes_96 : decode cX8_goes 96 = .ok (.aload_n 0, 1) := by decide +kernel
theorem dX8_goes_97 : decode cX8_goes 97 = .ok (.getfield 7, 3) := by decide +kernel
theorem dX8_goes_100 : decode cX8_goes 100 = .ok (.iconst 5, 1) := by decide +kernel
theorem dX8_goes_101 : decode cX8_goes 101 = .ok (.iaload, 1) := by decide +kernel
theorem dX8_goes_102 : decode cX8_goes 102 = .ok (.iconst 1, 1) := by decide +kernel
theorem dX8_goes_103 : decode cX8_goes 103 = .ok (.if_icmp .le 39, 3) := by decide +kernel
theorem dX8_goes_106 : decode cX8_goes 106 = .ok (.iload_n 2, 1) := by decide +kernel
theorem dX8_goes_107 : decode cX8_goes 107 = .ok (.iload_n 1, 1) := by decide +kernel
theorem dX8_goes_108 : decode cX8_goes 108 = .ok (.aload_n 0, 1) := by decide +kernel
theorem dX8_goes_109 : decode cX8_goes 109 = .ok (.getfield 7, 3) := by decide +kernel
theorem dX8_goes_112 : decode cX8_goes 112 = .ok (.bipush 82, 2) := by decide +kernel
theorem dX8_goes_114 : decode cX8_goes 114 = .ok (.aload_n 0, 1) := by decide +kernel
theorem dX8_goes_115 : decode cX8_goes 115 = .ok (.getfield 7, 3) := by decide +kernel
theorem dX8_goes_118 : decode cX8_goes 118 = .ok (.iconst 5, 1) := by decide +kernel
theorem dX8_goes_119 : decode cX8_goes 119 = .ok (.iaload, 1) := by decide +kernel
theorem dX8_goes_120 : decode cX8_goes 120 = .ok (.iadd, 1) := by decide +kernel
theorem dX8_goes_121 : decode cX8_goes 121 = .ok (.iconst 2, 1) := by decide +kernel
theorem dX8_goes_122 : decode cX8_goes 122 = .ok (.isub, 1) := by decide +kernel
theorem dX8_goes_123 : decode cX8_goes 123 = .ok (.iaload, 1) := by decide +kernel
theorem dX8_goes_124 : decode cX8_goes 124 = .ok (.isub, 1) := by decide +kernel
theorem dX8_goes_125 : decode cX8_goes 125 = .ok (.imul, 1) := by decide +kernel
theorem dX8_goes_126 : decode cX8_goes 126 = .ok (.ifCond .lt 16, 3) := by decide +kernel
theorem dX8_goes_129 : decode cX8_goes 129 = .ok (.aload_n 0, 1) := by decide +kernel
theorem dX8_goes_130 : decode cX8_goes 130 = .ok (.getfield 7, 3) := by decide +kernel
theorem dX8_goes_133 : decode cX8_goes 133 = .ok (.iconst 5, 1) := by decide +kernel
theorem dX8_goes_134 : decode cX8_goes 134 = .ok (.dup2, 1) := by decide +kernel
theorem dX8_goes_135 : decode cX8_goes 135 = .ok (.iaload, 1) := by decide +kernel
theorem dX8_goes_136 : decode cX8_goes 136 = .ok (.iconst 2, 1) := by decide +kernel
theorem dX8_goes_137 : decode cX8_goes 137 = .ok (.isub, 1) := by decide +kernel
theorem dX8_goes_138 : decode cX8_goes 138 = .ok (.iastore, 1) := by decide +kernel
theorem dX8_goes_139 : decode cX8_goes 139 = .ok (.goto (-43), 3) := by decide +kernel
theorem dX8_goes_142 : decode cX8_goes 142 = .ok (.aload_n 0, 1) := by decide +kernel
theorem dX8_goes_143 : decode cX8_goes 143 = .ok (.getfield 7, 3) := by decide +kernel
theorem dX8_goes_146 : decode cX8_goes 146 = .ok (.iconst 5, 1) := by decide +kernel
theorem dX8_goes_147 : decode cX8_goes 147 = .ok (.iaload, 1) := by decide +kernel
theorem dX8_goes_148 : decode cX8_goes 148 = .ok (.ifCond .ne 13, 3) := by decide +kernel
theorem dX8_goes_151 : decode cX8_goes 151 = .ok (.aload_n 0, 1) := by decide +kernel
theorem dX8_goes_152 : decode cX8_goes 152 = .ok (.iload_n 1, 1) := by decide +kernel
theorem dX8_goes_153 : decode cX8_goes 153 = .ok (.iconst 1, 1) := by decide +kernel
theorem dX8_goes_154 : decode cX8_goes 154 = .ok (.invokevirtual 45, 3) := by decide +kernel
theorem dX8_goes_157 : decode cX8_goes 157 = .ok (.istore_n 3, 1) := by decide +kernel
theorem dX8_goes_158 : decode cX8_goes 158 = .ok (.goto 53, 3) := by decide +kernel
theorem dX8_goes_161 : decode cX8_goes 161 = .ok (.aload_n 0, 1) := by decide +kernel
theorem dX8_goes_162 : decode cX8_goes 162 = .ok (.getfield 7, 3) := by decide +kernel
theorem dX8_goes_165 : decode cX8_goes 165 = .ok (.bipush 82, 2) := by decide +kernel
theorem dX8_goes_167 : decode cX8_goes 167 = .ok (.aload_n 0, 1) := by decide +kernel
theorem dX8_goes_168 : decode cX8_goes 168 = .ok (.getfield 7, 3) := by decide +kernel
theorem dX8_goes_171 : decode cX8_goes 171 = .ok (.iconst 5, 1) := by decide +kernel
theorem dX8_goes_172 : decode cX8_goes 172 = .ok (.iaload, 1) := by decide +kernel
theorem dX8_goes_173 : decode cX8_goes 173 = .ok (.iadd, 1) := by decide +kernel
theorem dX8_goes_174 : decode cX8_goes 174 = .ok (.iconst 1, 1) := by decide +kernel
theorem dX8_goes_175 : decode cX8_goes 175 = .ok (.isub, 1) := by decide +kernel
theorem dX8_goes_176 : decode cX8_goes 176 = .ok (.iaload, 1) := by decide +kernel
theorem dX8_goes_177 : decode cX8_goes 177 = .ok (.istore 4, 2) := by decide +kernel
theorem dX8_goes_179 : decode cX8_goes 179 = .ok (.aload_n 0, 1) := by decide +kernel
theorem dX8_goes_180 : decode cX8_goes 180 = .ok (.getfield 7, 3) := by decide +kernel
theorem dX8_goes_183 : decode cX8_goes 183 = .ok (.sipush 1084, 3) := by decide +kernel
theorem dX8_goes_186 : decode cX8_goes 186 = .ok (.aload_n 0, 1) := by decide +kernel
theorem dX8_goes_187 : decode cX8_goes 187 = .ok (.getfield 7, 3) := by decide +kernel
theorem dX8_goes_190 : decode cX8_goes 190 = .ok (.iconst 5, 1) := by decide +kernel
theorem dX8_goes_191 : decode cX8_goes 191 = .ok (.iaload, 1) := by decide +kernel
theorem dX8_goes_192 : decode cX8_goes 192 = .ok (.iadd, 1) := by decide +kernel
theorem dX8_goes_193 : decode cX8_goes 193 = .ok (.iconst 1, 1) := by decide +kernel
theorem dX8_goes_194 : decode cX8_goes 194 = .ok (.isub, 1) := by decide +kernel
theorem dX8_goes_195 : decode cX8_goes 195 = .ok (.iaload, 1) := by decide +kernel
theorem dX8_goes_196 : decode cX8_goes 196 = .ok (.iload_n 2, 1) := by decide +kernel
theorem dX8_goes_197 : decode cX8_goes 197 = .ok (.aload_n 0, 1) := by decide +kernel
theorem dX8_goes_198 : decode cX8_goes 198 = .ok (.iload_n 2, 1) := by decide +kernel
theorem dX8_goes_199 : decode cX8_goes 199 = .ok (.iload_n 1, 1) := by decide +kernel
theorem dX8_goes_200 : decode cX8_goes 200 = .ok (.iload 4, 2) := by decide +kernel
theorem dX8_goes_202 : decode cX8_goes 202 = .ok (.isub, 1) := by decide +kernel
theorem dX8_goes_203 : decode cX8_goes 203 = .ok (.imul, 1) := by decide +kernel
theorem dX8_goes_204 : decode cX8_goes 204 = .ok (.iconst 2, 1) := by decide +kernel
theorem dX8_goes_205 : decode cX8_goes 205 = .ok (.invokevirtual 45, 3) := by decide +kernel
theorem dX8_goes_208 : decode cX8_goes 208 = .ok (.imul, 1) := by decide +kernel
theorem dX8_goes_209 : decode cX8_goes 209 = .ok (.iadd, 1) := by decide +kernel
theorem dX8_goes_210 : decode cX8_goes 210 = .ok (.istore_n 3, 1) := by decide +kernel
theorem dX8_goes_211 : decode cX8_goes 211 = .ok (.aload_n 0, 1) := by decide +kernel
theorem dX8_goes_212 : decode cX8_goes 212 = .ok (.dup, 1) := by decide +kernel
theorem dX8_goes_213 : decode cX8_goes 213 = .ok (.getfield 37, 3) := by decide +kernel
theorem dX8_goes_216 : decode cX8_goes 216 = .ok (.aload_n 0, 1) := by decide +kernel
theorem dX8_goes_217 : decode cX8_goes 217 = .ok (.getfield 7, 3) := by decide +kernel
theorem dX8_goes_220 : decode cX8_goes 220 = .ok (.iconst 0, 1) := by decide +kernel
theorem dX8_goes_221 : decode cX8_goes 221 = .ok (.iaload, 1) := by decide +kernel
theorem dX8_goes_222 : decode cX8_goes 222 = .ok (.iload_n 1, 1) := by decide +kernel
theorem dX8_goes_223 : decode cX8_goes 223 = .ok (.iadd, 1) := by decide +kernel
theorem dX8_goes_224 : decode cX8_goes 224 = .ok (.i2l, 1) := by decide +kernel
theorem dX8_goes_225 : decode cX8_goes 225 = .ok (.iload_n 3, 1) := by decide +kernel
theorem dX8_goes_226 : decode cX8_goes 226 = .ok (.aload_n 0, 1) := by decide +kernel
theorem dX8_goes_227 : decode cX8_goes 227 = .ok (.getfield 7, 3) := by decide +kernel
theorem dX8_goes_230 : decode cX8_goes 230 = .ok (.iconst 1, 1) := by decide +kernel
theorem dX8_goes_231 : decode cX8_goes 231 = .ok (.iaload, 1) := by decide +kernel
theorem dX8_goes_232 : decode cX8_goes 232 = .ok (.isub, 1) := by decide +kernel
theorem dX8_goes_233 : decode cX8_goes 233 = .ok (.i2l, 1) := by decide +kernel
theorem dX8_goes_234 : decode cX8_goes 234 = .ok (.lmul, 1) := by decide +kernel
theorem dX8_goes_235 : decode cX8_goes 235 = .ok (.ladd, 1) := by decide +kernel
theorem dX8_goes_236 : decode cX8_goes 236 = .ok (.putfield 37, 3) := by decide +kernel
theorem dX8_goes_239 : decode cX8_goes 239 = .ok (.iload_n 3, 1) := by decide +kernel
theorem dX8_goes_240 : decode cX8_goes 240 = .ok (.aload_n 0, 1) := by decide +kernel
theorem dX8_goes_241 : decode cX8_goes 241 = .ok (.getfield 7, 3) := by decide +kernel
theorem dX8_goes_244 : decode cX8_goes 244 = .ok (.iconst 1, 1) := by decide +kernel
theorem dX8_goes_245 : decode cX8_goes 245 = .ok (.iaload, 1) := by decide +kernel
theorem dX8_goes_246 : decode cX8_goes 246 = .ok (.if_icmp .eq 7, 3) := by decide +kernel
theorem dX8_goes_249 : decode cX8_goes 249 = .ok (.iconst 1, 1) := by decide +kernel
theorem dX8_goes_250 : decode cX8_goes 250 = .ok (.goto 4, 3) := by decide +kernel
theorem dX8_goes_253 : decode cX8_goes 253 = .ok (.iconst 0, 1) := by decide +kernel
theorem dX8_goes_254 : decode cX8_goes 254 = .ok (.istore 4, 2) := by decide +kernel
theorem dX8_goes_256 : decode cX8_goes 256 = .ok (.aload_n 0, 1) := by decide +kernel
theorem dX8_goes_257 : decode cX8_goes 257 = .ok (.getfield 7, 3) := by decide +kernel
theorem dX8_goes_260 : decode cX8_goes 260 = .ok (.iconst 0, 1) := by decide +kernel
theorem dX8_goes_261 : decode cX8_goes 261 = .ok (.iload_n 1, 1) := by decide +kernel
theorem dX8_goes_262 : decode cX8_goes 262 = .ok (.iastore, 1) := by decide +kernel
theorem dX8_goes_263 : decode cX8_goes 263 = .ok (.aload_n 0, 1) := by decide +kernel
theorem dX8_goes_264 : decode cX8_goes 264 = .ok (.getfield 7, 3) := by decide +kernel
theorem dX8_goes_267 : decode cX8_goes 267 = .ok (.iconst 1, 1) := by decide +kernel
theorem dX8_goes_268 : decode cX8_goes 268 = .ok (.iload_n 3, 1) := by decide +kernel
theorem dX8_goes_269 : decode cX8_goes 269 = .ok (.iastore, 1) := by decide +kernel
theorem dX8_goes_270 : decode cX8_goes 270 = .ok (.iload 4, 2) := by decide +kernel
theorem dX8_goes_272 : decode cX8_goes 272 = .ok (.ifCond .eq 7, 3) := by decide +kernel
theorem dX8_goes_275 : decode cX8_goes 275 = .ok (.aload_n 0, 1) := by decide +kernel
theorem dX8_goes_276 : decode cX8_goes 276 = .ok (.invokevirtual 49, 3) := by decide +kernel
theorem dX8_goes_279 : decode cX8_goes 279 = .ok (.return_, 1) := by decide +kernel
theorem dX8_onPan_0 : decode cX8_onPan 0 = .ok (.iconst 0, 1) := by decide +kernel
theorem dX8_onPan_1 : decode cX8_onPan 1 = .ok (.istore_n 1, 1) := by decide +kernel
theorem dX8_onPan_2 : decode cX8_onPan 2 = .ok (.iconst 0, 1) := by decide +kernel
theorem dX8_onPan_3 : decode cX8_onPan 3 = .ok (.istore_n 2, 1) := by decide +kernel
theorem dX8_onPan_4 : decode cX8_onPan 4 = .ok (.iload_n 2, 1) := by decide +kernel
theorem dX8_onPan_5 : decode cX8_onPan 5 = .ok (.aload_n 0, 1) := by decide +kernel
theorem dX8_onPan_6 : decode cX8_onPan 6 = .ok (.getfield 7, 3) := by decide +kernel
theorem dX8_onPan_9 : decode cX8_onPan 9 = .ok (.bipush 41, 2) := by decide +kernel
theorem dX8_onPan_11 : decode cX8_onPan 11 = .ok (.iaload, 1) := by decide +kernel
theorem dX8_onPan_12 : decode cX8_onPan 12 = .ok (.if_icmp .ge 31, 3) := by decide +kernel
theorem dX8_onPan_15 : decode cX8_onPan 15 = .ok (.iload_n 1, 1) := by decide +kernel
theorem dX8_onPan_16 : decode cX8_onPan 16 = .ok (.aload_n 0, 1) := by decide +kernel
theorem dX8_onPan_17 : decode cX8_onPan 17 = .ok (.getfield 7, 3) := by decide +kernel
theorem dX8_onPan_20 : decode cX8_onPan 20 = .ok (.bipush 74, 2) := by decide +kernel
theorem dX8_onPan_22 : decode cX8_onPan 22 = .ok (.iload_n 2, 1) := by decide +kernel
theorem dX8_onPan_23 : decode cX8_onPan 23 = .ok (.iadd, 1) := by decide +kernel
theorem dX8_onPan_24 : decode cX8_onPan 24 = .ok (.iaload, 1) := by decide +kernel
theorem dX8_onPan_25 : decode cX8_onPan 25 = .ok (.aload_n 0, 1) := by decide +kernel
theorem dX8_onPan_26 : decode cX8_onPan 26 = .ok (.getfield 7, 3) := by decide +kernel
theorem dX8_onPan_29 : decode cX8_onPan 29 = .ok (.bipush 42, 2) := by decide +kernel
theorem dX8_onPan_31 : decode cX8_onPan 31 = .ok (.iload_n 2, 1) := by decide +kernel
theorem dX8_onPan_32 : decode cX8_onPan 32 = .ok (.iadd, 1) := by decide +kernel
theorem dX8_onPan_33 : decode cX8_onPan 33 = .ok (.iaload, 1) := by decide +kernel
theorem dX8_onPan_34 : decode cX8_onPan 34 = .ok (.imul, 1) := by decide +kernel
theorem dX8_onPan_35 : decode cX8_onPan 35 = .ok (.iadd, 1) := by decide +kernel
theorem dX8_onPan_36 : decode cX8_onPan 36 = .ok (.istore_n 1, 1) := by decide +kernel
theorem dX8_onPan_37 : decode cX8_onPan 37 = .ok (.iinc 2 1, 3) := by decide +kernel
theorem dX8_onPan_40 : decode cX8_onPan 40 = .ok (.goto (-36), 3) := by decide +kernel
theorem dX8_onPan_43 : decode cX8_onPan 43 = .ok (.iload_n 1, 1) := by decide +kernel
theorem dX8_onPan_44 : decode cX8_onPan 44 = .ok (.ireturn, 1) := by decide +kernel
theorem dX8_readingOf_0 : decode cX8_readingOf 0 = .ok (.aload_n 0, 1) := by decide +kernel
theorem dX8_readingOf_1 : decode cX8_readingOf 1 = .ok (.getfield 7, 3) := by decide +kernel
theorem dX8_readingOf_4 : decode cX8_readingOf 4 = .ok (.bipush 26, 2) := by decide +kernel
theorem dX8_readingOf_6 : decode cX8_readingOf 6 = .ok (.iaload, 1) := by decide +kernel
theorem dX8_readingOf_7 : decode cX8_readingOf 7 = .ok (.iconst 1, 1) := by decide +kernel
theorem dX8_readingOf_8 : decode cX8_readingOf 8 = .ok (.isub, 1) := by decide +kernel
theorem dX8_readingOf_9 : decode cX8_readingOf 9 = .ok (.istore_n 2, 1) := by decide +kernel
theorem dX8_readingOf_10 : decode cX8_readingOf 10 = .ok (.iload_n 1, 1) := by decide +kernel
theorem dX8_readingOf_11 : decode cX8_readingOf 11 = .ok (.aload_n 0, 1) := by decide +kernel
theorem dX8_readingOf_12 : decode cX8_readingOf 12 = .ok (.getfield 7, 3) := by decide +kernel
theorem dX8_readingOf_15 : decode cX8_readingOf 15 = .ok (.bipush 27, 2) := by decide +kernel
theorem dX8_readingOf_17 : decode cX8_readingOf 17 = .ok (.iaload, 1) := by decide +kernel
theorem dX8_readingOf_18 : decode cX8_readingOf 18 = .ok (.if_icmp .gt 11, 3) := by decide +kernel
theorem dX8_readingOf_21 : decode cX8_readingOf 21 = .ok (.aload_n 0, 1) := by decide +kernel
theorem dX8_readingOf_22 : decode cX8_readingOf 22 = .ok (.getfield 7, 3) := by decide +kernel
theorem dX8_readingOf_25 : decode cX8_readingOf 25 = .ok (.bipush 34, 2) := by decide +kernel
theorem dX8_readingOf_27 : decode cX8_readingOf 27 = .ok (.iaload, 1) := by decide +kernel
theorem dX8_readingOf_28 : decode cX8_readingOf 28 = .ok (.ireturn, 1) := by decide +kernel
theorem dX8_readingOf_29 : decode cX8_readingOf 29 = .ok (.iload_n 1, 1) := by decide +kernel
theorem dX8_readingOf_30 : decode cX8_readingOf 30 = .ok (.aload_n 0, 1) := by decide +kernel
theorem dX8_readingOf_31 : decode cX8_readingOf 31 = .ok (.getfield 7, 3) := by decide +kernel
theorem dX8_readingOf_34 : decode cX8_readingOf 34 = .ok (.bipush 27, 2) := by decide +kernel
theorem dX8_readingOf_36 : decode cX8_readingOf 36 = .ok (.iload_n 2, 1) := by decide +kernel
theorem dX8_readingOf_37 : decode cX8_readingOf 37 = .ok (.iadd, 1) := by decide +kernel
theorem dX8_readingOf_38 : decode cX8_readingOf 38 = .ok (.iaload, 1) := by decide +kernel
theorem dX8_readingOf_39 : decode cX8_readingOf 39 = .ok (.if_icmp .lt 13, 3) := by decide +kernel
theorem dX8_readingOf_42 : decode cX8_readingOf 42 = .ok (.aload_n 0, 1) := by decide +kernel
theorem dX8_readingOf_43 : decode cX8_readingOf 43 = .ok (.getfield 7, 3) := by decide +kernel
theorem dX8_readingOf_46 : decode cX8_readingOf 46 = .ok (.bipush 34, 2) := by decide +kernel
theorem dX8_readingOf_48 : decode cX8_readingOf 48 = .ok (.iload_n 2, 1) := by decide +kernel
theorem dX8_readingOf_49 : decode cX8_readingOf 49 = .ok (.iadd, 1) := by decide +kernel
theorem dX8_readingOf_50 : decode cX8_readingOf 50 = .ok (.iaload, 1) := by decide +kernel
theorem dX8_readingOf_51 : decode cX8_readingOf 51 = .ok (.ireturn, 1) := by decide +kernel
theorem dX8_readingOf_52 : decode cX8_readingOf 52 = .ok (.iconst 0, 1) := by decide +kernel
theorem dX8_readingOf_53 : decode cX8_readingOf 53 = .ok (.istore_n 3, 1) := by decide +kernel
theorem dX8_readingOf_54 : decode cX8_readingOf 54 = .ok (.aload_n 0, 1) := by decide +kernel
theorem dX8_readingOf_55 : decode cX8_readingOf 55 = .ok (.getfield 7, 3) := by decide +kernel
theorem dX8_readingOf_58 : decode cX8_readingOf 58 = .ok (.bipush 27, 2) := by decide +kernel
theorem dX8_readingOf_60 : decode cX8_readingOf 60 = .ok (.iload_n 3, 1) := by decide +kernel
theorem dX8_readingOf_61 : decode cX8_readingOf 61 = .ok (.iadd, 1) := by decide +kernel
theorem dX8_readingOf_62 : decode cX8_readingOf 62 = .ok (.iconst 1, 1) := by decide +kernel
theorem dX8_readingOf_63 : decode cX8_readingOf 63 = .ok (.iadd, 1) := by decide +kernel
theorem dX8_readingOf_64 : decode cX8_readingOf 64 = .ok (.iaload, 1) := by decide +kernel
theorem dX8_readingOf_65 : decode cX8_readingOf 65 = .ok (.iload_n 1, 1) := by decide +kernel
theorem dX8_readingOf_66 : decode cX8_readingOf 66 = .ok (.if_icmp .gt 9, 3) := by decide +kernel
theorem dX8_readingOf_69 : decode cX8_readingOf 69 = .ok (.iinc 3 1, 3) := by decide +kernel
theorem dX8_readingOf_72 : decode cX8_readingOf 72 = .ok (.goto (-18), 3) := by decide +kernel
theorem dX8_readingOf_75 : decode cX8_readingOf 75 = .ok (.aload_n 0, 1) := by decide +kernel
theorem dX8_readingOf_76 : decode cX8_readingOf 76 = .ok (.getfield 7, 3) := by decide +kernel
theorem dX8_readingOf_79 : decode cX8_readingOf 79 = .ok (.bipush 34, 2) := by decide +kernel
theorem dX8_readingOf_81 : decode cX8_readingOf 81 = .ok (.iload_n 3, 1) := by decide +kernel
theorem dX8_readingOf_82 : decode cX8_readingOf 82 = .ok (.iadd, 1) := by decide +kernel
theorem dX8_readingOf_83 : decode cX8_readingOf 83 = .ok (.iconst 1, 1) := by decide +kernel
theorem dX8_readingOf_84 : decode cX8_readingOf 84 = .ok (.iadd, 1) := by decide +kernel
theorem dX8_readingOf_85 : decode cX8_readingOf 85 = .ok (.iaload, 1) := by decide +kernel
theorem dX8_readingOf_86 : decode cX8_readingOf 86 = .ok (.aload_n 0, 1) := by decide +kernel
theorem dX8_readingOf_87 : decode cX8_readingOf 87 = .ok (.getfield 7, 3) := by decide +kernel
theorem dX8_readingOf_90 : decode cX8_readingOf 90 = .ok (.bipush 34, 2) := by decide +kernel
theorem dX8_readingOf_92 : decode cX8_readingOf 92 = .ok (.iload_n 3, 1) := by decide +kernel
theorem dX8_readingOf_93 : decode cX8_readingOf 93 = .ok (.iadd, 1) := by decide +kernel
theorem dX8_readingOf_94 : decode cX8_readingOf 94 = .ok (.iaload, 1) := by decide +kernel
theorem dX8_readingOf_95 : decode cX8_readingOf 95 = .ok (.isub, 1) := by decide +kernel
theorem dX8_readingOf_96 : decode cX8_readingOf 96 = .ok (.i2l, 1) := by decide +kernel
theorem dX8_readingOf_97 : decode cX8_readingOf 97 = .ok (.lstore 4, 2) := by decide +kernel
theorem dX8_readingOf_99 : decode cX8_readingOf 99 = .ok (.aload_n 0, 1) := by decide +kernel
theorem dX8_readingOf_100 : decode cX8_readingOf 100 = .ok (.getfield 7, 3) := by decide +kernel
theorem dX8_readingOf_103 : decode cX8_readingOf 103 = .ok (.bipush 34, 2) := by decide +kernel
theorem dX8_readingOf_105 : decode cX8_readingOf 105 = .ok (.iload_n 3, 1) := by decide +kernel
theorem dX8_readingOf_106 : decode cX8_readingOf 106 = .ok (.iadd, 1) := by decide +kernel
theorem dX8_readingOf_107 : decode cX8_readingOf 107 = .ok (.iaload, 1) := by decide +kernel
theorem dX8_readingOf_108 : decode cX8_readingOf 108 = .ok (.lload 4, 2) := by decide +kernel
theorem dX8_readingOf_110 : decode cX8_readingOf 110 = .ok (.iload_n 1, 1) := by decide +kernel
theorem dX8_readingOf_111 : decode cX8_readingOf 111 = .ok (.aload_n 0, 1) := by decide +kernel
theorem dX8_readingOf_112 : decode cX8_readingOf 112 = .ok (.getfield 7, 3) := by decide +kernel
theorem dX8_readingOf_115 : decode cX8_readingOf 115 = .ok (.bipush 27, 2) := by decide +kernel
theorem dX8_readingOf_117 : decode cX8_readingOf 117 = .ok (.iload_n 3, 1) := by decide +kernel
theorem dX8_readingOf_118 : decode cX8_readingOf 118 = .ok (.iadd, 1) := by decide +kernel
theorem dX8_readingOf_119 : decode cX8_readingOf 119 = .ok (.iaload, 1) := by decide +kernel
theorem dX8_readingOf_120 : decode cX8_readingOf 120 = .ok (.isub, 1) := by decide +kernel
theorem dX8_readingOf_121 : decode cX8_readingOf 121 = .ok (.i2l, 1) := by decide +kernel
theorem dX8_readingOf_122 : decode cX8_readingOf 122 = .ok (.lmul, 1) := by decide +kernel
theorem dX8_readingOf_123 : decode cX8_readingOf 123 = .ok (.aload_n 0, 1) := by decide +kernel
theorem dX8_readingOf_124 : decode cX8_readingOf 124 = .ok (.getfield 7, 3) := by decide +kernel
theorem dX8_readingOf_127 : decode cX8_readingOf 127 = .ok (.bipush 27, 2) := by decide +kernel
theorem dX8_readingOf_129 : decode cX8_readingOf 129 = .ok (.iload_n 3, 1) := by decide +kernel
theorem dX8_readingOf_130 : decode cX8_readingOf 130 = .ok (.iadd, 1) := by decide +kernel
theorem dX8_readingOf_131 : decode cX8_readingOf 131 = .ok (.iconst 1, 1) := by decide +kernel
theorem dX8_readingOf_132 : decode cX8_readingOf 132 = .ok (.iadd, 1) := by decide +kernel
theorem dX8_readingOf_133 : decode cX8_readingOf 133 = .ok (.iaload, 1) := by decide +kernel
theorem dX8_readingOf_134 : decode cX8_readingOf 134 = .ok (.aload_n 0, 1) := by decide +kernel
theorem dX8_readingOf_135 : decode cX8_readingOf 135 = .ok (.getfield 7, 3) := by decide +kernel
theorem dX8_readingOf_138 : decode cX8_readingOf 138 = .ok (.bipush 27, 2) := by decide +kernel
theorem dX8_readingOf_140 : decode cX8_readingOf 140 = .ok (.iload_n 3, 1) := by decide +kernel
theorem dX8_readingOf_141 : decode cX8_readingOf 141 = .ok (.iadd, 1) := by decide +kernel
theorem dX8_readingOf_142 : decode cX8_readingOf 142 = .ok (.iaload, 1) := by decide +kernel
theorem dX8_readingOf_143 : decode cX8_readingOf 143 = .ok (.isub, 1) := by decide +kernel
theorem dX8_readingOf_144 : decode cX8_readingOf 144 = .ok (.i2l, 1) := by decide +kernel
theorem dX8_readingOf_145 : decode cX8_readingOf 145 = .ok (.invokestatic 41, 3) := by decide +kernel
theorem dX8_readingOf_148 : decode cX8_readingOf 148 = .ok (.iadd, 1) := by decide +kernel
theorem dX8_readingOf_149 : decode cX8_readingOf 149 = .ok (.ireturn, 1) := by decide +kernel
theorem dX8_reads_0 : decode cX8_reads 0 = .ok (.aload_n 0, 1) := by decide +kernel
theorem dX8_reads_1 : decode cX8_reads 1 = .ok (.aload_n 0, 1) := by decide +kernel
theorem dX8_reads_2 : decode cX8_reads 2 = .ok (.getfield 7, 3) := by decide +kernel
theorem dX8_reads_5 : decode cX8_reads 5 = .ok (.iconst 3, 1) := by decide +kernel
theorem dX8_reads_6 : decode cX8_reads 6 = .ok (.iaload, 1) := by decide +kernel
theorem dX8_reads_7 : decode cX8_reads 7 = .ok (.invokevirtual 52, 3) := by decide +kernel
theorem dX8_reads_10 : decode cX8_reads 10 = .ok (.ireturn, 1) := by decide +kernel
theorem dX8_refusal_0 : decode cX8_refusal 0 = .ok (.iload_n 1, 1) := by decide +kernel
theorem dX8_refusal_1 : decode cX8_refusal 1 = .ok (.iconst 0, 1) := by decide +kernel
theorem dX8_refusal_2 : decode cX8_refusal 2 = .ok (.aload_n 0, 1) := by decide +kernel
theorem dX8_refusal_3 : decode cX8_refusal 3 = .ok (.getfield 7, 3) := by decide +kernel
theorem dX8_refusal_6 : decode cX8_refusal 6 = .ok (.bipush 41, 2) := by decide +kernel
theorem dX8_refusal_8 : decode cX8_refusal 8 = .ok (.iaload, 1) := by decide +kernel
theorem dX8_refusal_9 : decode cX8_refusal 9 = .ok (.iconst 1, 1) := by decide +kernel
theorem dX8_refusal_10 : decode cX8_refusal 10 = .ok (.isub, 1) := by decide +kernel
theorem dX8_refusal_11 : decode cX8_refusal 11 = .ok (.invokestatic 56, 3) := by decide +kernel
theorem dX8_refusal_14 : decode cX8_refusal 14 = .ok (.ifCond .ne 5, 3) := by decide +kernel
theorem dX8_refusal_17 : decode cX8_refusal 17 = .ok (.iconst 1, 1) := by decide +kernel
theorem dX8_refusal_18 : decode cX8_refusal 18 = .ok (.ireturn, 1) := by decide +kernel
theorem dX8_refusal_19 : decode cX8_refusal 19 = .ok (.aload_n 0, 1) := by decide +kernel
theorem dX8_refusal_20 : decode cX8_refusal 20 = .ok (.getfield 7, 3) := by decide +kernel
theorem dX8_refusal_23 : decode cX8_refusal 23 = .ok (.bipush 74, 2) := by decide +kernel
theorem dX8_refusal_25 : decode cX8_refusal 25 = .ok (.iload_n 1, 1) := by decide +kernel
theorem dX8_refusal_26 : decode cX8_refusal 26 = .ok (.iadd, 1) := by decide +kernel
theorem dX8_refusal_27 : decode cX8_refusal 27 = .ok (.iaload, 1) := by decide +kernel
theorem dX8_refusal_28 : decode cX8_refusal 28 = .ok (.iload_n 2, 1) := by decide +kernel
theorem dX8_refusal_29 : decode cX8_refusal 29 = .ok (.ifCond .eq 7, 3) := by decide +kernel
theorem dX8_refusal_32 : decode cX8_refusal 32 = .ok (.iconst 1, 1) := by decide +kernel
theorem dX8_refusal_33 : decode cX8_refusal 33 = .ok (.goto 4, 3) := by decide +kernel
theorem dX8_refusal_36 : decode cX8_refusal 36 = .ok (.iconst 0, 1) := by decide +kernel
theorem dX8_refusal_37 : decode cX8_refusal 37 = .ok (.if_icmp .ne 5, 3) := by decide +kernel
theorem dX8_refusal_40 : decode cX8_refusal 40 = .ok (.iconst 2, 1) := by decide +kernel
theorem dX8_refusal_41 : decode cX8_refusal 41 = .ok (.ireturn, 1) := by decide +kernel
theorem dX8_refusal_42 : decode cX8_refusal 42 = .ok (.iload_n 2, 1) := by decide +kernel
theorem dX8_refusal_43 : decode cX8_refusal 43 = .ok (.ifCond .eq 29, 3) := by decide +kernel
theorem dX8_refusal_46 : decode cX8_refusal 46 = .ok (.aload_n 0, 1) := by decide +kernel
theorem dX8_refusal_47 : decode cX8_refusal 47 = .ok (.getfield 7, 3) := by decide +kernel
theorem dX8_refusal_50 : decode cX8_refusal 50 = .ok (.iconst 0, 1) := by decide +kernel
theorem dX8_refusal_51 : decode cX8_refusal 51 = .ok (.iaload, 1) := by decide +kernel
theorem dX8_refusal_52 : decode cX8_refusal 52 = .ok (.aload_n 0, 1) := by decide +kernel
theorem dX8_refusal_53 : decode cX8_refusal 53 = .ok (.getfield 7, 3) := by decide +kernel
theorem dX8_refusal_56 : decode cX8_refusal 56 = .ok (.bipush 42, 2) := by decide +kernel
theorem dX8_refusal_58 : decode cX8_refusal 58 = .ok (.iload_n 1, 1) := by decide +kernel
theorem dX8_refusal_59 : decode cX8_refusal 59 = .ok (.iadd, 1) := by decide +kernel
theorem dX8_refusal_60 : decode cX8_refusal 60 = .ok (.iaload, 1) := by decide +kernel
theorem dX8_refusal_61 : decode cX8_refusal 61 = .ok (.iadd, 1) := by decide +kernel
theorem dX8_refusal_62 : decode cX8_refusal 62 = .ok (.sipush 1000, 3) := by decide +kernel
theorem dX8_refusal_65 : decode cX8_refusal 65 = .ok (.if_icmp .le 7, 3) := by decide +kernel
theorem dX8_refusal_68 : decode cX8_refusal 68 = .ok (.iconst 3, 1) := by decide +kernel
theorem dX8_refusal_69 : decode cX8_refusal 69 = .ok (.goto 4, 3) := by decide +kernel
theorem dX8_refusal_72 : decode cX8_refusal 72 = .ok (.iconst 0, 1) := by decide +kernel
theorem dX8_refusal_73 : decode cX8_refusal 73 = .ok (.ireturn, 1) := by decide +kernel
theorem dX8_moves_0 : decode cX8_moves 0 = .ok (.aload_n 0, 1) := by decide +kernel
theorem dX8_moves_1 : decode cX8_moves 1 = .ok (.getfield 7, 3) := by decide +kernel
theorem dX8_moves_4 : decode cX8_moves 4 = .ok (.bipush 74, 2) := by decide +kernel
theorem dX8_moves_6 : decode cX8_moves 6 = .ok (.iload_n 1, 1) := by decide +kernel
theorem dX8_moves_7 : decode cX8_moves 7 = .ok (.iadd, 1) := by decide +kernel
theorem dX8_moves_8 : decode cX8_moves 8 = .ok (.iload_n 2, 1) := by decide +kernel
theorem dX8_moves_9 : decode cX8_moves 9 = .ok (.ifCond .eq 7, 3) := by decide +kernel
theorem dX8_moves_12 : decode cX8_moves 12 = .ok (.iconst 1, 1) := by decide +kernel
theorem dX8_moves_13 : decode cX8_moves 13 = .ok (.goto 4, 3) := by decide +kernel
theorem dX8_moves_16 : decode cX8_moves 16 = .ok (.iconst 0, 1) := by decide +kernel
theorem dX8_moves_17 : decode cX8_moves 17 = .ok (.iastore, 1) := by decide +kernel
theorem dX8_moves_18 : decode cX8_moves 18 = .ok (.aload_n 0, 1) := by decide +kernel
theorem dX8_moves_19 : decode cX8_moves 19 = .ok (.iload_n 2, 1) := by decide +kernel
theorem dX8_moves_20 : decode cX8_moves 20 = .ok (.ifCond .eq 22, 3) := by decide +kernel
theorem dX8_moves_23 : decode cX8_moves 23 = .ok (.aload_n 0, 1) := by decide +kernel
theorem dX8_moves_24 : decode cX8_moves 24 = .ok (.getfield 7, 3) := by decide +kernel
theorem dX8_moves_27 : decode cX8_moves 27 = .ok (.iconst 0, 1) := by decide +kernel
theorem dX8_moves_28 : decode cX8_moves 28 = .ok (.iaload, 1) := by decide +kernel
theorem dX8_moves_29 : decode cX8_moves 29 = .ok (.aload_n 0, 1) := by decide +kernel
theorem dX8_moves_30 : decode cX8_moves 30 = .ok (.getfield 7, 3) := by decide +kernel
theorem dX8_moves_33 : decode cX8_moves 33 = .ok (.bipush 42, 2) := by decide +kernel
theorem dX8_moves_35 : decode cX8_moves 35 = .ok (.iload_n 1, 1) := by decide +kernel
theorem dX8_moves_36 : decode cX8_moves 36 = .ok (.iadd, 1) := by decide +kernel
theorem dX8_moves_37 : decode cX8_moves 37 = .ok (.iaload, 1) := by decide +kernel
theorem dX8_moves_38 : decode cX8_moves 38 = .ok (.iadd, 1) := by decide +kernel
theorem dX8_moves_39 : decode cX8_moves 39 = .ok (.goto 19, 3) := by decide +kernel
theorem dX8_moves_42 : decode cX8_moves 42 = .ok (.aload_n 0, 1) := by decide +kernel
theorem dX8_moves_43 : decode cX8_moves 43 = .ok (.getfield 7, 3) := by decide +kernel
theorem dX8_moves_46 : decode cX8_moves 46 = .ok (.iconst 0, 1) := by decide +kernel
theorem dX8_moves_47 : decode cX8_moves 47 = .ok (.iaload, 1) := by decide +kernel
theorem dX8_moves_48 : decode cX8_moves 48 = .ok (.aload_n 0, 1) := by decide +kernel
theorem dX8_moves_49 : decode cX8_moves 49 = .ok (.getfield 7, 3) := by decide +kernel
theorem dX8_moves_52 : decode cX8_moves 52 = .ok (.bipush 42, 2) := by decide +kernel
theorem dX8_moves_54 : decode cX8_moves 54 = .ok (.iload_n 1, 1) := by decide +kernel
theorem dX8_moves_55 : decode cX8_moves 55 = .ok (.iadd, 1) := by decide +kernel
theorem dX8_moves_56 : decode cX8_moves 56 = .ok (.iaload, 1) := by decide +kernel
theorem dX8_moves_57 : decode cX8_moves 57 = .ok (.isub, 1) := by decide +kernel
theorem dX8_moves_58 : decode cX8_moves 58 = .ok (.invokevirtual 60, 3) := by decide +kernel
theorem dX8_moves_61 : decode cX8_moves 61 = .ok (.return_, 1) := by decide +kernel
theorem dX8_creeps_0 : decode cX8_creeps 0 = .ok (.iconst 0, 1) := by decide +kernel
theorem dX8_creeps_1 : decode cX8_creeps 1 = .ok (.istore_n 2, 1) := by decide +kernel
theorem dX8_creeps_2 : decode cX8_creeps 2 = .ok (.iload_n 2, 1) := by decide +kernel
theorem dX8_creeps_3 : decode cX8_creeps 3 = .ok (.iload_n 1, 1) := by decide +kernel
theorem dX8_creeps_4 : decode cX8_creeps 4 = .ok (.if_icmp .ge 101, 3) := by decide +kernel
theorem dX8_creeps_7 : decode cX8_creeps 7 = .ok (.aload_n 0, 1) := by decide +kernel
theorem dX8_creeps_8 : decode cX8_creeps 8 = .ok (.getfield 7, 3) := by decide +kernel
theorem dX8_creeps_11 : decode cX8_creeps 11 = .ok (.iconst 0, 1) := by decide +kernel
theorem dX8_creeps_12 : decode cX8_creeps 12 = .ok (.iaload, 1) := by decide +kernel
theorem dX8_creeps_13 : decode cX8_creeps 13 = .ok (.aload_n 0, 1) := by decide +kernel
theorem dX8_creeps_14 : decode cX8_creeps 14 = .ok (.getfield 7, 3) := by decide +kernel
theorem dX8_creeps_17 : decode cX8_creeps 17 = .ok (.bipush 7, 2) := by decide +kernel
theorem dX8_creeps_19 : decode cX8_creeps 19 = .ok (.iaload, 1) := by decide +kernel
theorem dX8_creeps_20 : decode cX8_creeps 20 = .ok (.imul, 1) := by decide +kernel
theorem dX8_creeps_21 : decode cX8_creeps 21 = .ok (.bipush 100, 2) := by decide +kernel
theorem dX8_creeps_23 : decode cX8_creeps 23 = .ok (.idiv, 1) := by decide +kernel
theorem dX8_creeps_24 : decode cX8_creeps 24 = .ok (.aload_n 0, 1) := by decide +kernel
theorem dX8_creeps_25 : decode cX8_creeps 25 = .ok (.getfield 7, 3) := by decide +kernel
theorem dX8_creeps_28 : decode cX8_creeps 28 = .ok (.iconst 2, 1) := by decide +kernel
theorem dX8_creeps_29 : decode cX8_creeps 29 = .ok (.iaload, 1) := by decide +kernel
theorem dX8_creeps_30 : decode cX8_creeps 30 = .ok (.isub, 1) := by decide +kernel
theorem dX8_creeps_31 : decode cX8_creeps 31 = .ok (.istore_n 3, 1) := by decide +kernel
theorem dX8_creeps_32 : decode cX8_creeps 32 = .ok (.iload_n 3, 1) := by decide +kernel
theorem dX8_creeps_33 : decode cX8_creeps 33 = .ok (.aload_n 0, 1) := by decide +kernel
theorem dX8_creeps_34 : decode cX8_creeps 34 = .ok (.getfield 7, 3) := by decide +kernel
theorem dX8_creeps_37 : decode cX8_creeps 37 = .ok (.bipush 8, 2) := by decide +kernel
theorem dX8_creeps_39 : decode cX8_creeps 39 = .ok (.iaload, 1) := by decide +kernel
theorem dX8_creeps_40 : decode cX8_creeps 40 = .ok (.if_icmp .le 13, 3) := by decide +kernel
theorem dX8_creeps_43 : decode cX8_creeps 43 = .ok (.aload_n 0, 1) := by decide +kernel
theorem dX8_creeps_44 : decode cX8_creeps 44 = .ok (.getfield 7, 3) := by decide +kernel
theorem dX8_creeps_47 : decode cX8_creeps 47 = .ok (.bipush 8, 2) := by decide +kernel
theorem dX8_creeps_49 : decode cX8_creeps 49 = .ok (.iaload, 1) := by decide +kernel
theorem dX8_creeps_50 : decode cX8_creeps 50 = .ok (.goto 27, 3) := by decide +kernel
theorem dX8_creeps_53 : decode cX8_creeps 53 = .ok (.iload_n 3, 1) := by decide +kernel
theorem dX8_creeps_54 : decode cX8_creeps 54 = .ok (.aload_n 0, 1) := by decide +kernel
theorem dX8_creeps_55 : decode cX8_creeps 55 = .ok (.getfield 7, 3) := by decide +kernel
theorem dX8_creeps_58 : decode cX8_creeps 58 = .ok (.bipush 8, 2) := by decide +kernel
theorem dX8_creeps_60 : decode cX8_creeps 60 = .ok (.iaload, 1) := by decide +kernel
theorem dX8_creeps_61 : decode cX8_creeps 61 = .ok (.ineg, 1) := by decide +kernel
theorem dX8_creeps_62 : decode cX8_creeps 62 = .ok (.if_icmp .ge 14, 3) := by decide +kernel
theorem dX8_creeps_65 : decode cX8_creeps 65 = .ok (.aload_n 0, 1) := by decide +kernel
theorem dX8_creeps_66 : decode cX8_creeps 66 = .ok (.getfield 7, 3) := by decide +kernel
theorem dX8_creeps_69 : decode cX8_creeps 69 = .ok (.bipush 8, 2) := by decide +kernel
theorem dX8_creeps_71 : decode cX8_creeps 71 = .ok (.iaload, 1) := by decide +kernel
theorem dX8_creeps_72 : decode cX8_creeps 72 = .ok (.ineg, 1) := by decide +kernel
theorem dX8_creeps_73 : decode cX8_creeps 73 = .ok (.goto 4, 3) := by decide +kernel
theorem dX8_creeps_76 : decode cX8_creeps 76 = .ok (.iload_n 3, 1) := by decide +kernel
theorem dX8_creeps_77 : decode cX8_creeps 77 = .ok (.istore 4, 2) := by decide +kernel
theorem dX8_creeps_79 : decode cX8_creeps 79 = .ok (.aload_n 0, 1) := by decide +kernel
theorem dX8_creeps_80 : decode cX8_creeps 80 = .ok (.getfield 7, 3) := by decide +kernel
theorem dX8_creeps_83 : decode cX8_creeps 83 = .ok (.iconst 2, 1) := by decide +kernel
theorem dX8_creeps_84 : decode cX8_creeps 84 = .ok (.dup2, 1) := by decide +kernel
theorem dX8_creeps_85 : decode cX8_creeps 85 = .ok (.iaload, 1) := by decide +kernel
theorem dX8_creeps_86 : decode cX8_creeps 86 = .ok (.iload 4, 2) := by decide +kernel
theorem dX8_creeps_88 : decode cX8_creeps 88 = .ok (.iadd, 1) := by decide +kernel
theorem dX8_creeps_89 : decode cX8_creeps 89 = .ok (.iastore, 1) := by decide +kernel
theorem dX8_creeps_90 : decode cX8_creeps 90 = .ok (.iload 4, 2) := by decide +kernel
theorem dX8_creeps_92 : decode cX8_creeps 92 = .ok (.ifCond .eq 7, 3) := by decide +kernel
theorem dX8_creeps_95 : decode cX8_creeps 95 = .ok (.aload_n 0, 1) := by decide +kernel
theorem dX8_creeps_96 : decode cX8_creeps 96 = .ok (.invokevirtual 49, 3) := by decide +kernel
theorem dX8_creeps_99 : decode cX8_creeps 99 = .ok (.iinc 2 1, 3) := by decide +kernel
theorem dX8_creeps_102 : decode cX8_creeps 102 = .ok (.goto (-100), 3) := by decide +kernel
theorem dX8_creeps_105 : decode cX8_creeps 105 = .ok (.return_, 1) := by decide +kernel
theorem dX8_zeroes_0 : decode cX8_zeroes 0 = .ok (.aload_n 0, 1) := by decide +kernel
theorem dX8_zeroes_1 : decode cX8_zeroes 1 = .ok (.getfield 7, 3) := by decide +kernel
theorem dX8_zeroes_4 : decode cX8_zeroes 4 = .ok (.iconst 5, 1) := by decide +kernel
theorem dX8_zeroes_5 : decode cX8_zeroes 5 = .ok (.iconst 0, 1) := by decide +kernel
theorem dX8_zeroes_6 : decode cX8_zeroes 6 = .ok (.iastore, 1) := by decide +kernel
theorem dX8_zeroes_7 : decode cX8_zeroes 7 = .ok (.aload_n 0, 1) := by decide +kernel
theorem dX8_zeroes_8 : decode cX8_zeroes 8 = .ok (.getfield 7, 3) := by decide +kernel
theorem dX8_zeroes_11 : decode cX8_zeroes 11 = .ok (.iconst 4, 1) := by decide +kernel
theorem dX8_zeroes_12 : decode cX8_zeroes 12 = .ok (.iconst 0, 1) := by decide +kernel
theorem dX8_zeroes_13 : decode cX8_zeroes 13 = .ok (.iastore, 1) := by decide +kernel
theorem dX8_zeroes_14 : decode cX8_zeroes 14 = .ok (.aload_n 0, 1) := by decide +kernel
theorem dX8_zeroes_15 : decode cX8_zeroes 15 = .ok (.getfield 7, 3) := by decide +kernel
theorem dX8_zeroes_18 : decode cX8_zeroes 18 = .ok (.iconst 2, 1) := by decide +kernel
theorem dX8_zeroes_19 : decode cX8_zeroes 19 = .ok (.iconst 0, 1) := by decide +kernel
theorem dX8_zeroes_20 : decode cX8_zeroes 20 = .ok (.iastore, 1) := by decide +kernel
theorem dX8_zeroes_21 : decode cX8_zeroes 21 = .ok (.aload_n 0, 1) := by decide +kernel
theorem dX8_zeroes_22 : decode cX8_zeroes 22 = .ok (.getfield 7, 3) := by decide +kernel
theorem dX8_zeroes_25 : decode cX8_zeroes 25 = .ok (.iconst 1, 1) := by decide +kernel
theorem dX8_zeroes_26 : decode cX8_zeroes 26 = .ok (.iconst 0, 1) := by decide +kernel
theorem dX8_zeroes_27 : decode cX8_zeroes 27 = .ok (.iastore, 1) := by decide +kernel
theorem dX8_zeroes_28 : decode cX8_zeroes 28 = .ok (.aload_n 0, 1) := by decide +kernel
theorem dX8_zeroes_29 : decode cX8_zeroes 29 = .ok (.getfield 7, 3) := by decide +kernel
theorem dX8_zeroes_32 : decode cX8_zeroes 32 = .ok (.iconst 3, 1) := by decide +kernel
theorem dX8_zeroes_33 : decode cX8_zeroes 33 = .ok (.iconst 0, 1) := by decide +kernel
theorem dX8_zeroes_34 : decode cX8_zeroes 34 = .ok (.iastore, 1) := by decide +kernel
theorem dX8_zeroes_35 : decode cX8_zeroes 35 = .ok (.aload_n 0, 1) := by decide +kernel
theorem dX8_zeroes_36 : decode cX8_zeroes 36 = .ok (.lconst 0, 1) := by decide +kernel
theorem dX8_zeroes_37 : decode cX8_zeroes 37 = .ok (.putfield 37, 3) := by decide +kernel
theorem dX8_zeroes_40 : decode cX8_zeroes 40 = .ok (.return_, 1) := by decide +kernel
theorem dX8_setLoad_0 : decode cX8_setLoad 0 = .ok (.iload_n 1, 1) := by decide +kernel
theorem dX8_setLoad_1 : decode cX8_setLoad 1 = .ok (.iconst 0, 1) := by decide +kernel
theorem dX8_setLoad_2 : decode cX8_setLoad 2 = .ok (.sipush 1000, 3) := by decide +kernel
theorem dX8_setLoad_5 : decode cX8_setLoad 5 = .ok (.invokestatic 56, 3) := by decide +kernel
theorem dX8_setLoad_8 : decode cX8_setLoad 8 = .ok (.ifCond .ne 6, 3) := by decide +kernel
theorem dX8_setLoad_11 : decode cX8_setLoad 11 = .ok (.ldc 64, 2) := by decide +kernel
theorem dX8_setLoad_13 : decode cX8_setLoad 13 = .ok (.ireturn, 1) := by decide +kernel
theorem dX8_setLoad_14 : decode cX8_setLoad 14 = .ok (.aload_n 0, 1) := by decide +kernel
theorem dX8_setLoad_15 : decode cX8_setLoad 15 = .ok (.invokevirtual 65, 3) := by decide +kernel
theorem dX8_setLoad_18 : decode cX8_setLoad 18 = .ok (.iload_n 1, 1) := by decide +kernel
theorem dX8_setLoad_19 : decode cX8_setLoad 19 = .ok (.if_icmp .le 6, 3) := by decide +kernel
theorem dX8_setLoad_22 : decode cX8_setLoad 22 = .ok (.ldc 69, 2) := by decide +kernel
theorem dX8_setLoad_24 : decode cX8_setLoad 24 = .ok (.ireturn, 1) := by decide +kernel
theorem dX8_setLoad_25 : decode cX8_setLoad 25 = .ok (.aload_n 0, 1) := by decide +kernel
theorem dX8_setLoad_26 : decode cX8_setLoad 26 = .ok (.invokevirtual 70, 3) := by decide +kernel
theorem dX8_setLoad_29 : decode cX8_setLoad 29 = .ok (.aload_n 0, 1) := by decide +kernel
theorem dX8_setLoad_30 : decode cX8_setLoad 30 = .ok (.iload_n 1, 1) := by decide +kernel
theorem dX8_setLoad_31 : decode cX8_setLoad 31 = .ok (.invokevirtual 60, 3) := by decide +kernel
theorem dX8_setLoad_34 : decode cX8_setLoad 34 = .ok (.aload_n 0, 1) := by decide +kernel
theorem dX8_setLoad_35 : decode cX8_setLoad 35 = .ok (.invokevirtual 73, 3) := by decide +kernel
theorem dX8_setLoad_38 : decode cX8_setLoad 38 = .ok (.ireturn, 1) := by decide +kernel
theorem dX8_brings_0 : decode cX8_brings 0 = .ok (.aload_n 0, 1) := by decide +kernel
theorem dX8_brings_1 : decode cX8_brings 1 = .ok (.iload_n 1, 1) := by decide +kernel
theorem dX8_brings_2 : decode cX8_brings 2 = .ok (.iload_n 2, 1) := by decide +kernel
theorem dX8_brings_3 : decode cX8_brings 3 = .ok (.invokevirtual 76, 3) := by decide +kernel
theorem dX8_brings_6 : decode cX8_brings 6 = .ok (.istore_n 3, 1) := by decide +kernel
theorem dX8_brings_7 : decode cX8_brings 7 = .ok (.iload_n 3, 1) := by decide +kernel
theorem dX8_brings_8 : decode cX8_brings 8 = .ok (.ifCond .le 16, 3) := by decide +kernel
theorem dX8_brings_11 : decode cX8_brings 11 = .ok (.iload_n 3, 1) := by decide +kernel
theorem dX8_brings_12 : decode cX8_brings 12 = .ok (.iconst 1, 1) := by decide +kernel
theorem dX8_brings_13 : decode cX8_brings 13 = .ok (.if_icmp .ne 8, 3) := by decide +kernel
theorem dX8_brings_16 : decode cX8_brings 16 = .ok (.ldc 64, 2) := by decide +kernel
theorem dX8_brings_18 : decode cX8_brings 18 = .ok (.goto 5, 3) := by decide +kernel
theorem dX8_brings_21 : decode cX8_brings 21 = .ok (.ldc 69, 2) := by decide +kernel
theorem dX8_brings_23 : decode cX8_brings 23 = .ok (.ireturn, 1) := by decide +kernel
theorem dX8_brings_24 : decode cX8_brings 24 = .ok (.aload_n 0, 1) := by decide +kernel
theorem dX8_brings_25 : decode cX8_brings 25 = .ok (.invokevirtual 70, 3) := by decide +kernel
theorem dX8_brings_28 : decode cX8_brings 28 = .ok (.aload_n 0, 1) := by decide +kernel
theorem dX8_brings_29 : decode cX8_brings 29 = .ok (.iload_n 1, 1) := by decide +kernel
theorem dX8_brings_30 : decode cX8_brings 30 = .ok (.iload_n 2, 1) := by decide +kernel
theorem dX8_brings_31 : decode cX8_brings 31 = .ok (.invokevirtual 80, 3) := by decide +kernel
theorem dX8_brings_34 : decode cX8_brings 34 = .ok (.aload_n 0, 1) := by decide +kernel
theorem dX8_brings_35 : decode cX8_brings 35 = .ok (.invokevirtual 73, 3) := by decide +kernel
theorem dX8_brings_38 : decode cX8_brings 38 = .ok (.ireturn, 1) := by decide +kernel
theorem dX8_put_0 : decode cX8_put 0 = .ok (.aload_n 0, 1) := by decide +kernel
theorem dX8_put_1 : decode cX8_put 1 = .ok (.iload_n 1, 1) := by decide +kernel
theorem dX8_put_2 : decode cX8_put 2 = .ok (.iconst 1, 1) := by decide +kernel
theorem dX8_put_3 : decode cX8_put 3 = .ok (.invokevirtual 84, 3) := by decide +kernel
theorem dX8_put_6 : decode cX8_put 6 = .ok (.ireturn, 1) := by decide +kernel
theorem dX8_take_0 : decode cX8_take 0 = .ok (.aload_n 0, 1) := by decide +kernel
theorem dX8_take_1 : decode cX8_take 1 = .ok (.iload_n 1, 1) := by decide +kernel
theorem dX8_take_2 : decode cX8_take 2 = .ok (.iconst 0, 1) := by decide +kernel
theorem dX8_take_3 : decode cX8_take 3 = .ok (.invokevirtual 84, 3) := by decide +kernel
theorem dX8_take_6 : decode cX8_take 6 = .ok (.ireturn, 1) := by decide +kernel
theorem dX8_hours_0 : decode cX8_hours 0 = .ok (.iload_n 1, 1) := by decide +kernel
theorem dX8_hours_1 : decode cX8_hours 1 = .ok (.iconst 1, 1) := by decide +kernel
theorem dX8_hours_2 : decode cX8_hours 2 = .ok (.sipush 200, 3) := by decide +kernel
theorem dX8_hours_5 : decode cX8_hours 5 = .ok (.invokestatic 56, 3) := by decide +kernel
theorem dX8_hours_8 : decode cX8_hours 8 = .ok (.ifCond .ne 6, 3) := by decide +kernel
theorem dX8_hours_11 : decode cX8_hours 11 = .ok (.ldc 64, 2) := by decide +kernel
theorem dX8_hours_13 : decode cX8_hours 13 = .ok (.ireturn, 1) := by decide +kernel
theorem dX8_hours_14 : decode cX8_hours 14 = .ok (.aload_n 0, 1) := by decide +kernel
theorem dX8_hours_15 : decode cX8_hours 15 = .ok (.invokevirtual 70, 3) := by decide +kernel
theorem dX8_hours_18 : decode cX8_hours 18 = .ok (.aload_n 0, 1) := by decide +kernel
theorem dX8_hours_19 : decode cX8_hours 19 = .ok (.iload_n 1, 1) := by decide +kernel
theorem dX8_hours_20 : decode cX8_hours 20 = .ok (.invokevirtual 87, 3) := by decide +kernel
theorem dX8_hours_23 : decode cX8_hours 23 = .ok (.aload_n 0, 1) := by decide +kernel
theorem dX8_hours_24 : decode cX8_hours 24 = .ok (.getfield 7, 3) := by decide +kernel
theorem dX8_hours_27 : decode cX8_hours 27 = .ok (.iconst 2, 1) := by decide +kernel
theorem dX8_hours_28 : decode cX8_hours 28 = .ok (.iaload, 1) := by decide +kernel
theorem dX8_hours_29 : decode cX8_hours 29 = .ok (.ireturn, 1) := by decide +kernel
theorem dX8_zero_0 : decode cX8_zero 0 = .ok (.aload_n 0, 1) := by decide +kernel
theorem dX8_zero_1 : decode cX8_zero 1 = .ok (.getfield 7, 3) := by decide +kernel
theorem dX8_zero_4 : decode cX8_zero 4 = .ok (.iconst 0, 1) := by decide +kernel
theorem dX8_zero_5 : decode cX8_zero 5 = .ok (.iaload, 1) := by decide +kernel
theorem dX8_zero_6 : decode cX8_zero 6 = .ok (.ifCond .eq 6, 3) := by decide +kernel
theorem dX8_zero_9 : decode cX8_zero 9 = .ok (.ldc 69, 2) := by decide +kernel
theorem dX8_zero_11 : decode cX8_zero 11 = .ok (.ireturn, 1) := by decide +kernel
theorem dX8_zero_12 : decode cX8_zero 12 = .ok (.aload_n 0, 1) := by decide +kernel
theorem dX8_zero_13 : decode cX8_zero 13 = .ok (.invokevirtual 70, 3) := by decide +kernel
theorem dX8_zero_16 : decode cX8_zero 16 = .ok (.aload_n 0, 1) := by decide +kernel
theorem dX8_zero_17 : decode cX8_zero 17 = .ok (.getfield 7, 3) := by decide +kernel
theorem dX8_zero_20 : decode cX8_zero 20 = .ok (.iconst 5, 1) := by decide +kernel
theorem dX8_zero_21 : decode cX8_zero 21 = .ok (.iaload, 1) := by decide +kernel
theorem dX8_zero_22 : decode cX8_zero 22 = .ok (.istore_n 1, 1) := by decide +kernel
theorem dX8_zero_23 : decode cX8_zero 23 = .ok (.aload_n 0, 1) := by decide +kernel
theorem dX8_zero_24 : decode cX8_zero 24 = .ok (.invokevirtual 90, 3) := by decide +kernel
theorem dX8_zero_27 : decode cX8_zero 27 = .ok (.iload_n 1, 1) := by decide +kernel
theorem dX8_zero_28 : decode cX8_zero 28 = .ok (.ireturn, 1) := by decide +kernel
theorem dX8_undo_0 : decode cX8_undo 0 = .ok (.aload_n 0, 1) := by decide +kernel
theorem dX8_undo_1 : decode cX8_undo 1 = .ok (.getfield 33, 3) := by decide +kernel
theorem dX8_undo_4 : decode cX8_undo 4 = .ok (.ifCond .ne 6, 3) := by decide +kernel
theorem dX8_undo_7 : decode cX8_undo 7 = .ok (.ldc 69, 2) := by decide +kernel
theorem dX8_undo_9 : decode cX8_undo 9 = .ok (.ireturn, 1) := by decide +kernel
theorem dX8_undo_10 : decode cX8_undo 10 = .ok (.aload_n 0, 1) := by decide +kernel
theorem dX8_undo_11 : decode cX8_undo 11 = .ok (.dup, 1) := by decide +kernel
theorem dX8_undo_12 : decode cX8_undo 12 = .ok (.getfield 33, 3) := by decide +kernel
theorem dX8_undo_15 : decode cX8_undo 15 = .ok (.iconst 1, 1) := by decide +kernel
theorem dX8_undo_16 : decode cX8_undo 16 = .ok (.isub, 1) := by decide +kernel
theorem dX8_undo_17 : decode cX8_undo 17 = .ok (.putfield 33, 3) := by decide +kernel
theorem dX8_undo_20 : decode cX8_undo 20 = .ok (.iconst 0, 1) := by decide +kernel
theorem dX8_undo_21 : decode cX8_undo 21 = .ok (.istore_n 1, 1) := by decide +kernel
theorem dX8_undo_22 : decode cX8_undo 22 = .ok (.iload_n 1, 1) := by decide +kernel
theorem dX8_undo_23 : decode cX8_undo 23 = .ok (.sipush 2086, 3) := by decide +kernel
theorem dX8_undo_26 : decode cX8_undo 26 = .ok (.if_icmp .ge 30, 3) := by decide +kernel
theorem dX8_undo_29 : decode cX8_undo 29 = .ok (.aload_n 0, 1) := by decide +kernel
theorem dX8_undo_30 : decode cX8_undo 30 = .ok (.getfield 7, 3) := by decide +kernel
theorem dX8_undo_33 : decode cX8_undo 33 = .ok (.iload_n 1, 1) := by decide +kernel
theorem dX8_undo_34 : decode cX8_undo 34 = .ok (.aload_n 0, 1) := by decide +kernel
theorem dX8_undo_35 : decode cX8_undo 35 = .ok (.getfield 13, 3) := by decide +kernel
theorem dX8_undo_38 : decode cX8_undo 38 = .ok (.sipush 2086, 3) := by decide +kernel
theorem dX8_undo_41 : decode cX8_undo 41 = .ok (.aload_n 0, 1) := by decide +kernel
theorem dX8_undo_42 : decode cX8_undo 42 = .ok (.getfield 33, 3) := by decide +kernel
theorem dX8_undo_45 : decode cX8_undo 45 = .ok (.imul, 1) := by decide +kernel
theorem dX8_undo_46 : decode cX8_undo 46 = .ok (.iload_n 1, 1) := by decide +kernel
theorem dX8_undo_47 : decode cX8_undo 47 = .ok (.iadd, 1) := by decide +kernel
theorem dX8_undo_48 : decode cX8_undo 48 = .ok (.iaload, 1) := by decide +kernel
theorem dX8_undo_49 : decode cX8_undo 49 = .ok (.iastore, 1) := by decide +kernel
theorem dX8_undo_50 : decode cX8_undo 50 = .ok (.iinc 1 1, 3) := by decide +kernel
theorem dX8_undo_53 : decode cX8_undo 53 = .ok (.goto (-31), 3) := by decide +kernel
theorem dX8_undo_56 : decode cX8_undo 56 = .ok (.aload_n 0, 1) := by decide +kernel
theorem dX8_undo_57 : decode cX8_undo 57 = .ok (.aload_n 0, 1) := by decide +kernel
theorem dX8_undo_58 : decode cX8_undo 58 = .ok (.getfield 16, 3) := by decide +kernel
theorem dX8_undo_61 : decode cX8_undo 61 = .ok (.aload_n 0, 1) := by decide +kernel
theorem dX8_undo_62 : decode cX8_undo 62 = .ok (.getfield 33, 3) := by decide +kernel
theorem dX8_undo_65 : decode cX8_undo 65 = .ok (.laload, 1) := by decide +kernel
theorem dX8_undo_66 : decode cX8_undo 66 = .ok (.putfield 37, 3) := by decide +kernel
theorem dX8_undo_69 : decode cX8_undo 69 = .ok (.aload_n 0, 1) := by decide +kernel
theorem dX8_undo_70 : decode cX8_undo 70 = .ok (.getfield 33, 3) := by decide +kernel
theorem dX8_undo_73 : decode cX8_undo 73 = .ok (.ireturn, 1) := by decide +kernel
theorem dX8_count_0 : decode cX8_count 0 = .ok (.iconst 0, 1) := by decide +kernel
theorem dX8_count_1 : decode cX8_count 1 = .ok (.istore_n 2, 1) := by decide +kernel
theorem dX8_count_2 : decode cX8_count 2 = .ok (.iconst 0, 1) := by decide +kernel
theorem dX8_count_3 : decode cX8_count 3 = .ok (.istore_n 3, 1) := by decide +kernel
theorem dX8_count_4 : decode cX8_count 4 = .ok (.iload_n 3, 1) := by decide +kernel
theorem dX8_count_5 : decode cX8_count 5 = .ok (.aload_n 0, 1) := by decide +kernel
theorem dX8_count_6 : decode cX8_count 6 = .ok (.getfield 7, 3) := by decide +kernel
theorem dX8_count_9 : decode cX8_count 9 = .ok (.bipush 41, 2) := by decide +kernel
theorem dX8_count_11 : decode cX8_count 11 = .ok (.iaload, 1) := by decide +kernel
theorem dX8_count_12 : decode cX8_count 12 = .ok (.if_icmp .ge 21, 3) := by decide +kernel
theorem dX8_count_15 : decode cX8_count 15 = .ok (.iload_n 2, 1) := by decide +kernel
theorem dX8_count_16 : decode cX8_count 16 = .ok (.aload_n 0, 1) := by decide +kernel
theorem dX8_count_17 : decode cX8_count 17 = .ok (.getfield 7, 3) := by decide +kernel
theorem dX8_count_20 : decode cX8_count 20 = .ok (.bipush 74, 2) := by decide +kernel
theorem dX8_count_22 : decode cX8_count 22 = .ok (.iload_n 3, 1) := by decide +kernel
theorem dX8_count_23 : decode cX8_count 23 = .ok (.iadd, 1) := by decide +kernel
theorem dX8_count_24 : decode cX8_count 24 = .ok (.iaload, 1) := by decide +kernel
theorem dX8_count_25 : decode cX8_count 25 = .ok (.iadd, 1) := by decide +kernel
theorem dX8_count_26 : decode cX8_count 26 = .ok (.istore_n 2, 1) := by decide +kernel
theorem dX8_count_27 : decode cX8_count 27 = .ok (.iinc 3 1, 3) := by decide +kernel
theorem dX8_count_30 : decode cX8_count 30 = .ok (.goto (-26), 3) := by decide +kernel
theorem dX8_count_33 : decode cX8_count 33 = .ok (.iload_n 1, 1) := by decide +kernel
theorem dX8_count_34 : decode cX8_count 34 = .ok (.tableswitch 150 0 15 #[78, 78, 78, 78, 85, 90, 97, 104, 112, 114, 119, 124, 132, 140, 140, 140], 78) := by decide +kernel
theorem dX8_count_112 : decode cX8_count 112 = .ok (.aload_n 0, 1) := by decide +kernel
