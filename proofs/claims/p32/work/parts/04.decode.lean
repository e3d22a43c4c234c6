theorem dX0_init_0 : decode cX0_init 0 = .ok (.aload_n 0, 1) := by decide +kernel
theorem dX0_init_1 : decode cX0_init 1 = .ok (.invokespecial 3, 3) := by decide +kernel
theorem dX0_init_4 : decode cX0_init 4 = .ok (.aload_n 0, 1) := by decide +kernel
theorem dX0_init_5 : decode cX0_init 5 = .ok (.new 9, 3) := by decide +kernel
theorem dX0_init_8 : decode cX0_init 8 = .ok (.dup, 1) := by decide +kernel
theorem dX0_init_9 : decode cX0_init 9 = .ok (.sipush 1001, 3) := by decide +kernel
theorem dX0_init_12 : decode cX0_init 12 = .ok (.invokespecial 11, 3) := by decide +kernel
theorem dX0_init_15 : decode cX0_init 15 = .ok (.putfield 14, 3) := by decide +kernel
theorem dX0_init_18 : decode cX0_init 18 = .ok (.aload_n 0, 1) := by decide +kernel
theorem dX0_init_19 : decode cX0_init 19 = .ok (.new 20, 3) := by decide +kernel
theorem dX0_init_22 : decode cX0_init 22 = .ok (.dup, 1) := by decide +kernel
theorem dX0_init_23 : decode cX0_init 23 = .ok (.bipush 6, 2) := by decide +kernel
theorem dX0_init_25 : decode cX0_init 25 = .ok (.invokespecial 22, 3) := by decide +kernel
theorem dX0_init_28 : decode cX0_init 28 = .ok (.putfield 23, 3) := by decide +kernel
theorem dX0_init_31 : decode cX0_init 31 = .ok (.aload_n 0, 1) := by decide +kernel
theorem dX0_init_32 : decode cX0_init 32 = .ok (.getfield 23, 3) := by decide +kernel
theorem dX0_init_35 : decode cX0_init 35 = .ok (.iconst 0, 1) := by decide +kernel
theorem dX0_init_36 : decode cX0_init 36 = .ok (.iconst 0, 1) := by decide +kernel
theorem dX0_init_37 : decode cX0_init 37 = .ok (.invokevirtual 27, 3) := by decide +kernel
theorem dX0_init_40 : decode cX0_init 40 = .ok (.aload_n 0, 1) := by decide +kernel
theorem dX0_init_41 : decode cX0_init 41 = .ok (.getfield 23, 3) := by decide +kernel
theorem dX0_init_44 : decode cX0_init 44 = .ok (.sipush 10000, 3) := by decide +kernel
theorem dX0_init_47 : decode cX0_init 47 = .ok (.sipush 1000, 3) := by decide +kernel
theorem dX0_init_50 : decode cX0_init 50 = .ok (.invokevirtual 27, 3) := by decide +kernel
theorem dX0_init_53 : decode cX0_init 53 = .ok (.aload_n 0, 1) := by decide +kernel
theorem dX0_init_54 : decode cX0_init 54 = .ok (.new 31, 3) := by decide +kernel
theorem dX0_init_57 : decode cX0_init 57 = .ok (.dup, 1) := by decide +kernel
theorem dX0_init_58 : decode cX0_init 58 = .ok (.invokespecial 33, 3) := by decide +kernel
theorem dX0_init_61 : decode cX0_init 61 = .ok (.putfield 34, 3) := by decide +kernel
theorem dX0_init_64 : decode cX0_init 64 = .ok (.return_, 1) := by decide +kernel
theorem dX0_copyFrom_0 : decode cX0_copyFrom 0 = .ok (.aload_n 0, 1) := by decide +kernel
theorem dX0_copyFrom_1 : decode cX0_copyFrom 1 = .ok (.getfield 14, 3) := by decide +kernel
theorem dX0_copyFrom_4 : decode cX0_copyFrom 4 = .ok (.aload_n 1, 1) := by decide +kernel
theorem dX0_copyFrom_5 : decode cX0_copyFrom 5 = .ok (.getfield 14, 3) := by decide +kernel
theorem dX0_copyFrom_8 : decode cX0_copyFrom 8 = .ok (.invokevirtual 38, 3) := by decide +kernel
theorem dX0_copyFrom_11 : decode cX0_copyFrom 11 = .ok (.aload_n 0, 1) := by decide +kernel
theorem dX0_copyFrom_12 : decode cX0_copyFrom 12 = .ok (.getfield 23, 3) := by decide +kernel
theorem dX0_copyFrom_15 : decode cX0_copyFrom 15 = .ok (.aload_n 1, 1) := by decide +kernel
theorem dX0_copyFrom_16 : decode cX0_copyFrom 16 = .ok (.getfield 23, 3) := by decide +kernel
theorem dX0_copyFrom_19 : decode cX0_copyFrom 19 = .ok (.invokevirtual 42, 3) := by decide +kernel
theorem dX0_copyFrom_22 : decode cX0_copyFrom 22 = .ok (.aload_n 0, 1) := by decide +kernel
theorem dX0_copyFrom_23 : decode cX0_copyFrom 23 = .ok (.getfield 34, 3) := by decide +kernel
theorem dX0_copyFrom_26 : decode cX0_copyFrom 26 = .ok (.aload_n 1, 1) := by decide +kernel
theorem dX0_copyFrom_27 : decode cX0_copyFrom 27 = .ok (.getfield 34, 3) := by decide +kernel
theorem dX0_copyFrom_30 : decode cX0_copyFrom 30 = .ok (.invokevirtual 45, 3) := by decide +kernel
theorem dX0_copyFrom_33 : decode cX0_copyFrom 33 = .ok (.return_, 1) := by decide +kernel
theorem dX0_reading_0 : decode cX0_reading 0 = .ok (.aload_n 0, 1) := by decide +kernel
theorem dX0_reading_1 : decode cX0_reading 1 = .ok (.getfield 23, 3) := by decide +kernel
theorem dX0_reading_4 : decode cX0_reading 4 = .ok (.aload_n 0, 1) := by decide +kernel
theorem dX0_reading_5 : decode cX0_reading 5 = .ok (.getfield 14, 3) := by decide +kernel
theorem dX0_reading_8 : decode cX0_reading 8 = .ok (.getfield 48, 3) := by decide +kernel
theorem dX0_reading_11 : decode cX0_reading 11 = .ok (.iconst 1, 1) := by decide +kernel
theorem dX0_reading_12 : decode cX0_reading 12 = .ok (.invokevirtual 52, 3) := by decide +kernel
theorem dX0_reading_15 : decode cX0_reading 15 = .ok (.ireturn, 1) := by decide +kernel
theorem dX0_refusalOfLoad_0 : decode cX0_refusalOfLoad 0 = .ok (.aload_n 0, 1) := by decide +kernel
theorem dX0_refusalOfLoad_1 : decode cX0_refusalOfLoad 1 = .ok (.getfield 34, 3) := by decide +kernel
theorem dX0_refusalOfLoad_4 : decode cX0_refusalOfLoad 4 = .ok (.invokevirtual 56, 3) := by decide +kernel
theorem dX0_refusalOfLoad_7 : decode cX0_refusalOfLoad 7 = .ok (.iload_n 1, 1) := by decide +kernel
theorem dX0_refusalOfLoad_8 : decode cX0_refusalOfLoad 8 = .ok (.if_icmp .le 7, 3) := by decide +kernel
theorem dX0_refusalOfLoad_11 : decode cX0_refusalOfLoad 11 = .ok (.iconst 4, 1) := by decide +kernel
theorem dX0_refusalOfLoad_12 : decode cX0_refusalOfLoad 12 = .ok (.goto 4, 3) := by decide +kernel
theorem dX0_refusalOfLoad_15 : decode cX0_refusalOfLoad 15 = .ok (.iconst 0, 1) := by decide +kernel
theorem dX0_refusalOfLoad_16 : decode cX0_refusalOfLoad 16 = .ok (.ireturn, 1) := by decide +kernel
theorem dX0_refusalOfZero_0 : decode cX0_refusalOfZero 0 = .ok (.aload_n 0, 1) := by decide +kernel
theorem dX0_refusalOfZero_1 : decode cX0_refusalOfZero 1 = .ok (.getfield 14, 3) := by decide +kernel
theorem dX0_refusalOfZero_4 : decode cX0_refusalOfZero 4 = .ok (.getfield 67, 3) := by decide +kernel
theorem dX0_refusalOfZero_7 : decode cX0_refusalOfZero 7 = .ok (.ifCond .ne 7, 3) := by decide +kernel
theorem dX0_refusalOfZero_10 : decode cX0_refusalOfZero 10 = .ok (.iconst 0, 1) := by decide +kernel
theorem dX0_refusalOfZero_11 : decode cX0_refusalOfZero 11 = .ok (.goto 4, 3) := by decide +kernel
theorem dX0_refusalOfZero_14 : decode cX0_refusalOfZero 14 = .ok (.iconst 5, 1) := by decide +kernel
theorem dX0_refusalOfZero_15 : decode cX0_refusalOfZero 15 = .ok (.ireturn, 1) := by decide +kernel
theorem dX1_init_0 : decode cX1_init 0 = .ok (.aload_n 0, 1) := by decide +kernel
theorem dX1_init_1 : decode cX1_init 1 = .ok (.invokespecial 3, 3) := by decide +kernel
theorem dX1_init_4 : decode cX1_init 4 = .ok (.aload_n 0, 1) := by decide +kernel
theorem dX1_init_5 : decode cX1_init 5 = .ok (.iconst 5, 1) := by decide +kernel
theorem dX1_init_6 : decode cX1_init 6 = .ok (.anewarray 9, 3) := by decide +kernel
theorem dX1_init_9 : decode cX1_init 9 = .ok (.putfield 11, 3) := by decide +kernel
theorem dX1_init_12 : decode cX1_init 12 = .ok (.iconst 0, 1) := by decide +kernel
theorem dX1_init_13 : decode cX1_init 13 = .ok (.istore_n 1, 1) := by decide +kernel
theorem dX1_init_14 : decode cX1_init 14 = .ok (.iload_n 1, 1) := by decide +kernel
theorem dX1_init_15 : decode cX1_init 15 = .ok (.aload_n 0, 1) := by decide +kernel
theorem dX1_init_16 : decode cX1_init 16 = .ok (.getfield 11, 3) := by decide +kernel
theorem dX1_init_19 : decode cX1_init 19 = .ok (.arraylength, 1) := by decide +kernel
theorem dX1_init_20 : decode cX1_init 20 = .ok (.if_icmp .ge 22, 3) := by decide +kernel
theorem dX1_init_23 : decode cX1_init 23 = .ok (.aload_n 0, 1) := by decide +kernel
theorem dX1_init_24 : decode cX1_init 24 = .ok (.getfield 11, 3) := by decide +kernel
theorem dX1_init_27 : decode cX1_init 27 = .ok (.iload_n 1, 1) := by decide +kernel
theorem dX1_init_28 : decode cX1_init 28 = .ok (.new 9, 3) := by decide +kernel
theorem dX1_init_31 : decode cX1_init 31 = .ok (.dup, 1) := by decide +kernel
theorem dX1_init_32 : decode cX1_init 32 = .ok (.invokespecial 17, 3) := by decide +kernel
theorem dX1_init_35 : decode cX1_init 35 = .ok (.aastore, 1) := by decide +kernel
theorem dX1_init_36 : decode cX1_init 36 = .ok (.iinc 1 1, 3) := by decide +kernel
theorem dX1_init_39 : decode cX1_init 39 = .ok (.goto (-25), 3) := by decide +kernel
theorem dX1_init_42 : decode cX1_init 42 = .ok (.return_, 1) := by decide +kernel
theorem dX1_record_0 : decode cX1_record 0 = .ok (.aload_n 0, 1) := by decide +kernel
theorem dX1_record_1 : decode cX1_record 1 = .ok (.getfield 18, 3) := by decide +kernel
theorem dX1_record_4 : decode cX1_record 4 = .ok (.aload_n 0, 1) := by decide +kernel
theorem dX1_record_5 : decode cX1_record 5 = .ok (.getfield 11, 3) := by decide +kernel
theorem dX1_record_8 : decode cX1_record 8 = .ok (.arraylength, 1) := by decide +kernel
theorem dX1_record_9 : decode cX1_record 9 = .ok (.if_icmp .ge 16, 3) := by decide +kernel
theorem dX1_record_12 : decode cX1_record 12 = .ok (.aload_n 0, 1) := by decide +kernel
theorem dX1_record_13 : decode cX1_record 13 = .ok (.dup, 1) := by decide +kernel
theorem dX1_record_14 : decode cX1_record 14 = .ok (.getfield 18, 3) := by decide +kernel
theorem dX1_record_17 : decode cX1_record 17 = .ok (.iconst 1, 1) := by decide +kernel
theorem dX1_record_18 : decode cX1_record 18 = .ok (.iadd, 1) := by decide +kernel
theorem dX1_record_19 : decode cX1_record 19 = .ok (.putfield 18, 3) := by decide +kernel
theorem dX1_record_22 : decode cX1_record 22 = .ok (.goto 7, 3) := by decide +kernel
theorem dX1_record_25 : decode cX1_record 25 = .ok (.aload_n 0, 1) := by decide +kernel
theorem dX1_record_26 : decode cX1_record 26 = .ok (.invokevirtual 22, 3) := by decide +kernel
theorem dX1_record_29 : decode cX1_record 29 = .ok (.aload_n 1, 1) := by decide +kernel
theorem dX1_record_30 : decode cX1_record 30 = .ok (.aload_n 0, 1) := by decide +kernel
theorem dX1_record_31 : decode cX1_record 31 = .ok (.aload_n 0, 1) := by decide +kernel
theorem dX1_record_32 : decode cX1_record 32 = .ok (.getfield 18, 3) := by decide +kernel
theorem dX1_record_35 : decode cX1_record 35 = .ok (.iconst 1, 1) := by decide +kernel
theorem dX1_record_36 : decode cX1_record 36 = .ok (.isub, 1) := by decide +kernel
theorem dX1_record_37 : decode cX1_record 37 = .ok (.invokevirtual 25, 3) := by decide +kernel
theorem dX1_record_40 : decode cX1_record 40 = .ok (.invokestatic 29, 3) := by decide +kernel
theorem dX1_record_43 : decode cX1_record 43 = .ok (.return_, 1) := by decide +kernel
theorem dX1_restore_0 : decode cX1_restore 0 = .ok (.aload_n 0, 1) := by decide +kernel
theorem dX1_restore_1 : decode cX1_restore 1 = .ok (.getfield 18, 3) := by decide +kernel
theorem dX1_restore_4 : decode cX1_restore 4 = .ok (.ifCond .le 25, 3) := by decide +kernel
theorem dX1_restore_7 : decode cX1_restore 7 = .ok (.aload_n 0, 1) := by decide +kernel
theorem dX1_restore_8 : decode cX1_restore 8 = .ok (.dup, 1) := by decide +kernel
theorem dX1_restore_9 : decode cX1_restore 9 = .ok (.getfield 18, 3) := by decide +kernel
theorem dX1_restore_12 : decode cX1_restore 12 = .ok (.iconst 1, 1) := by decide +kernel
theorem dX1_restore_13 : decode cX1_restore 13 = .ok (.isub, 1) := by decide +kernel
theorem dX1_restore_14 : decode cX1_restore 14 = .ok (.putfield 18, 3) := by decide +kernel
theorem dX1_restore_17 : decode cX1_restore 17 = .ok (.aload_n 0, 1) := by decide +kernel
theorem dX1_restore_18 : decode cX1_restore 18 = .ok (.aload_n 0, 1) := by decide +kernel
theorem dX1_restore_19 : decode cX1_restore 19 = .ok (.getfield 18, 3) := by decide +kernel
theorem dX1_restore_22 : decode cX1_restore 22 = .ok (.invokevirtual 25, 3) := by decide +kernel
theorem dX1_restore_25 : decode cX1_restore 25 = .ok (.aload_n 1, 1) := by decide +kernel
theorem dX1_restore_26 : decode cX1_restore 26 = .ok (.invokestatic 29, 3) := by decide +kernel
theorem dX1_restore_29 : decode cX1_restore 29 = .ok (.return_, 1) := by decide +kernel
theorem dX1_moveOldestToEnd_0 : decode cX1_moveOldestToEnd 0 = .ok (.aload_n 0, 1) := by decide +kernel
theorem dX1_moveOldestToEnd_1 : decode cX1_moveOldestToEnd 1 = .ok (.iconst 0, 1) := by decide +kernel
theorem dX1_moveOldestToEnd_2 : decode cX1_moveOldestToEnd 2 = .ok (.invokevirtual 25, 3) := by decide +kernel
theorem dX1_moveOldestToEnd_5 : decode cX1_moveOldestToEnd 5 = .ok (.astore_n 1, 1) := by decide +kernel
theorem dX1_moveOldestToEnd_6 : decode cX1_moveOldestToEnd 6 = .ok (.iconst 1, 1) := by decide +kernel
theorem dX1_moveOldestToEnd_7 : decode cX1_moveOldestToEnd 7 = .ok (.istore_n 2, 1) := by decide +kernel
theorem dX1_moveOldestToEnd_8 : decode cX1_moveOldestToEnd 8 = .ok (.iload_n 2, 1) := by decide +kernel
theorem dX1_moveOldestToEnd_9 : decode cX1_moveOldestToEnd 9 = .ok (.aload_n 0, 1) := by decide +kernel
theorem dX1_moveOldestToEnd_10 : decode cX1_moveOldestToEnd 10 = .ok (.getfield 11, 3) := by decide +kernel
theorem dX1_moveOldestToEnd_13 : decode cX1_moveOldestToEnd 13 = .ok (.arraylength, 1) := by decide +kernel
theorem dX1_moveOldestToEnd_14 : decode cX1_moveOldestToEnd 14 = .ok (.if_icmp .ge 23, 3) := by decide +kernel
theorem dX1_moveOldestToEnd_17 : decode cX1_moveOldestToEnd 17 = .ok (.aload_n 0, 1) := by decide +kernel
theorem dX1_moveOldestToEnd_18 : decode cX1_moveOldestToEnd 18 = .ok (.getfield 11, 3) := by decide +kernel
theorem dX1_moveOldestToEnd_21 : decode cX1_moveOldestToEnd 21 = .ok (.iload_n 2, 1) := by decide +kernel
theorem dX1_moveOldestToEnd_22 : decode cX1_moveOldestToEnd 22 = .ok (.iconst 1, 1) := by decide +kernel
theorem dX1_moveOldestToEnd_23 : decode cX1_moveOldestToEnd 23 = .ok (.isub, 1) := by decide +kernel
theorem dX1_moveOldestToEnd_24 : decode cX1_moveOldestToEnd 24 = .ok (.aload_n 0, 1) := by decide +kernel
theorem dX1_moveOldestToEnd_25 : decode cX1_moveOldestToEnd 25 = .ok (.getfield 11, 3) := by decide +kernel
theorem dX1_moveOldestToEnd_28 : decode cX1_moveOldestToEnd 28 = .ok (.iload_n 2, 1) := by decide +kernel
theorem dX1_moveOldestToEnd_29 : decode cX1_moveOldestToEnd 29 = .ok (.aaload, 1) := by decide +kernel
theorem dX1_moveOldestToEnd_30 : decode cX1_moveOldestToEnd 30 = .ok (.aastore, 1) := by decide +kernel
theorem dX1_moveOldestToEnd_31 : decode cX1_moveOldestToEnd 31 = .ok (.iinc 2 1, 3) := by decide +kernel
theorem dX1_moveOldestToEnd_34 : decode cX1_moveOldestToEnd 34 = .ok (.goto (-26), 3) := by decide +kernel
theorem dX1_moveOldestToEnd_37 : decode cX1_moveOldestToEnd 37 = .ok (.aload_n 0, 1) := by decide +kernel
theorem dX1_moveOldestToEnd_38 : decode cX1_moveOldestToEnd 38 = .ok (.getfield 11, 3) := by decide +kernel
theorem dX1_moveOldestToEnd_41 : decode cX1_moveOldestToEnd 41 = .ok (.arraylength, 1) := by decide +kernel
theorem dX1_moveOldestToEnd_42 : decode cX1_moveOldestToEnd 42 = .ok (.ifCond .le 16, 3) := by decide +kernel
theorem dX1_moveOldestToEnd_45 : decode cX1_moveOldestToEnd 45 = .ok (.aload_n 0, 1) := by decide +kernel
theorem dX1_moveOldestToEnd_46 : decode cX1_moveOldestToEnd 46 = .ok (.getfield 11, 3) := by decide +kernel
theorem dX1_moveOldestToEnd_49 : decode cX1_moveOldestToEnd 49 = .ok (.aload_n 0, 1) := by decide +kernel
theorem dX1_moveOldestToEnd_50 : decode cX1_moveOldestToEnd 50 = .ok (.getfield 11, 3) := by decide +kernel
theorem dX1_moveOldestToEnd_53 : decode cX1_moveOldestToEnd 53 = .ok (.arraylength, 1) := by decide +kernel
theorem dX1_moveOldestToEnd_54 : decode cX1_moveOldestToEnd 54 = .ok (.iconst 1, 1) := by decide +kernel
theorem dX1_moveOldestToEnd_55 : decode cX1_moveOldestToEnd 55 = .ok (.isub, 1) := by decide +kernel
theorem dX1_moveOldestToEnd_56 : decode cX1_moveOldestToEnd 56 = .ok (.aload_n 1, 1) := by decide +kernel
theorem dX1_moveOldestToEnd_57 : decode cX1_moveOldestToEnd 57 = .ok (.aastore, 1) := by decide +kernel
theorem dX1_moveOldestToEnd_58 : decode cX1_moveOldestToEnd 58 = .ok (.return_, 1) := by decide +kernel
theorem dX1_benchAt_0 : decode cX1_benchAt 0 = .ok (.iload_n 1, 1) := by decide +kernel
theorem dX1_benchAt_1 : decode cX1_benchAt 1 = .ok (.ifCond .lt 21, 3) := by decide +kernel
theorem dX1_benchAt_4 : decode cX1_benchAt 4 = .ok (.iload_n 1, 1) := by decide +kernel
theorem dX1_benchAt_5 : decode cX1_benchAt 5 = .ok (.aload_n 0, 1) := by decide +kernel
theorem dX1_benchAt_6 : decode cX1_benchAt 6 = .ok (.getfield 11, 3) := by decide +kernel
theorem dX1_benchAt_9 : decode cX1_benchAt 9 = .ok (.arraylength, 1) := by decide +kernel
theorem dX1_benchAt_10 : decode cX1_benchAt 10 = .ok (.if_icmp .ge 12, 3) := by decide +kernel
theorem dX1_benchAt_13 : decode cX1_benchAt 13 = .ok (.aload_n 0, 1) := by decide +kernel
theorem dX1_benchAt_14 : decode cX1_benchAt 14 = .ok (.getfield 11, 3) := by decide +kernel
theorem dX1_benchAt_17 : decode cX1_benchAt 17 = .ok (.iload_n 1, 1) := by decide +kernel
theorem dX1_benchAt_18 : decode cX1_benchAt 18 = .ok (.aaload, 1) := by decide +kernel
theorem dX1_benchAt_19 : decode cX1_benchAt 19 = .ok (.goto 4, 3) := by decide +kernel
theorem dX1_benchAt_22 : decode cX1_benchAt 22 = .ok (.aconst_null, 1) := by decide +kernel
theorem dX1_benchAt_23 : decode cX1_benchAt 23 = .ok (.areturn, 1) := by decide +kernel
theorem dX1_copy_0 : decode cX1_copy 0 = .ok (.aload_n 0, 1) := by decide +kernel
theorem dX1_copy_1 : decode cX1_copy 1 = .ok (.ifnull 12, 3) := by decide +kernel
theorem dX1_copy_4 : decode cX1_copy 4 = .ok (.aload_n 1, 1) := by decide +kernel
theorem dX1_copy_5 : decode cX1_copy 5 = .ok (.ifnull 8, 3) := by decide +kernel
theorem dX1_copy_8 : decode cX1_copy 8 = .ok (.aload_n 1, 1) := by decide +kernel
theorem dX1_copy_9 : decode cX1_copy 9 = .ok (.aload_n 0, 1) := by decide +kernel
theorem dX1_copy_10 : decode cX1_copy 10 = .ok (.invokevirtual 33, 3) := by decide +kernel
theorem dX1_copy_13 : decode cX1_copy 13 = .ok (.return_, 1) := by decide +kernel
theorem dX2_init_0 : decode cX2_init 0 = .ok (.aload_n 0, 1) := by decide +kernel
theorem dX2_init_1 : decode cX2_init 1 = .ok (.invokespecial 3, 3) := by decide +kernel
theorem dX2_init_4 : decode cX2_init 4 = .ok (.iload_n 1, 1) := by decide +kernel
theorem dX2_init_5 : decode cX2_init 5 = .ok (.iconst 0, 1) := by decide +kernel
theorem dX2_init_6 : decode cX2_init 6 = .ok (.invokestatic 9, 3) := by decide +kernel
theorem dX2_init_9 : decode cX2_init 9 = .ok (.istore_n 2, 1) := by decide +kernel
theorem dX2_init_10 : decode cX2_init 10 = .ok (.aload_n 0, 1) := by decide +kernel
theorem dX2_init_11 : decode cX2_init 11 = .ok (.iload_n 2, 1) := by decide +kernel
theorem dX2_init_12 : decode cX2_init 12 = .ok (.newarray .int, 2) := by decide +kernel
theorem dX2_init_14 : decode cX2_init 14 = .ok (.putfield 15, 3) := by decide +kernel
theorem dX2_init_17 : decode cX2_init 17 = .ok (.aload_n 0, 1) := by decide +kernel
theorem dX2_init_18 : decode cX2_init 18 = .ok (.iload_n 2, 1) := by decide +kernel
theorem dX2_init_19 : decode cX2_init 19 = .ok (.newarray .int, 2) := by decide +kernel
theorem dX2_init_21 : decode cX2_init 21 = .ok (.putfield 21, 3) := by decide +kernel
theorem dX2_init_24 : decode cX2_init 24 = .ok (.return_, 1) := by decide +kernel
theorem dX2_copyFrom_0 : decode cX2_copyFrom 0 = .ok (.aload_n 0, 1) := by decide +kernel
theorem dX2_copyFrom_1 : decode cX2_copyFrom 1 = .ok (.aload_n 1, 1) := by decide +kernel
theorem dX2_copyFrom_2 : decode cX2_copyFrom 2 = .ok (.getfield 24, 3) := by decide +kernel
theorem dX2_copyFrom_5 : decode cX2_copyFrom 5 = .ok (.aload_n 0, 1) := by decide +kernel
theorem dX2_copyFrom_6 : decode cX2_copyFrom 6 = .ok (.getfield 15, 3) := by decide +kernel
theorem dX2_copyFrom_9 : decode cX2_copyFrom 9 = .ok (.arraylength, 1) := by decide +kernel
theorem dX2_copyFrom_10 : decode cX2_copyFrom 10 = .ok (.invokestatic 28, 3) := by decide +kernel
theorem dX2_copyFrom_13 : decode cX2_copyFrom 13 = .ok (.putfield 24, 3) := by decide +kernel
theorem dX2_copyFrom_16 : decode cX2_copyFrom 16 = .ok (.aload_n 1, 1) := by decide +kernel
theorem dX2_copyFrom_17 : decode cX2_copyFrom 17 = .ok (.getfield 15, 3) := by decide +kernel
theorem dX2_copyFrom_20 : decode cX2_copyFrom 20 = .ok (.iconst 0, 1) := by decide +kernel
theorem dX2_copyFrom_21 : decode cX2_copyFrom 21 = .ok (.aload_n 0, 1) := by decide +kernel
theorem dX2_copyFrom_22 : decode cX2_copyFrom 22 = .ok (.getfield 15, 3) := by decide +kernel
theorem dX2_copyFrom_25 : decode cX2_copyFrom 25 = .ok (.iconst 0, 1) := by decide +kernel
theorem dX2_copyFrom_26 : decode cX2_copyFrom 26 = .ok (.aload_n 0, 1) := by decide +kernel
theorem dX2_copyFrom_27 : decode cX2_copyFrom 27 = .ok (.getfield 24, 3) := by decide +kernel
theorem dX2_copyFrom_30 : decode cX2_copyFrom 30 = .ok (.invokestatic 31, 3) := by decide +kernel
theorem dX2_copyFrom_33 : decode cX2_copyFrom 33 = .ok (.aload_n 1, 1) := by decide +kernel
theorem dX2_copyFrom_34 : decode cX2_copyFrom 34 = .ok (.getfield 21, 3) := by decide +kernel
theorem dX2_copyFrom_37 : decode cX2_copyFrom 37 = .ok (.iconst 0, 1) := by decide +kernel
theorem dX2_copyFrom_38 : decode cX2_copyFrom 38 = .ok (.aload_n 0, 1) := by decide +kernel
theorem dX2_copyFrom_39 : decode cX2_copyFrom 39 = .ok (.getfield 21, 3) := by decide +kernel
theorem dX2_copyFrom_42 : decode cX2_copyFrom 42 = .ok (.iconst 0, 1) := by decide +kernel
theorem dX2_copyFrom_43 : decode cX2_copyFrom 43 = .ok (.aload_n 0, 1) := by decide +kernel
theorem dX2_copyFrom_44 : decode cX2_copyFrom 44 = .ok (.getfield 24, 3) := by decide +kernel
theorem dX2_copyFrom_47 : decode cX2_copyFrom 47 = .ok (.invokestatic 31, 3) := by decide +kernel
theorem dX2_copyFrom_50 : decode cX2_copyFrom 50 = .ok (.return_, 1) := by decide +kernel
theorem dX2_has_0 : decode cX2_has 0 = .ok (.iload_n 1, 1) := by decide +kernel
theorem dX2_has_1 : decode cX2_has 1 = .ok (.ifCond .lt 15, 3) := by decide +kernel
theorem dX2_has_4 : decode cX2_has 4 = .ok (.iload_n 1, 1) := by decide +kernel
theorem dX2_has_5 : decode cX2_has 5 = .ok (.aload_n 0, 1) := by decide +kernel
theorem dX2_has_6 : decode cX2_has 6 = .ok (.getfield 24, 3) := by decide +kernel
theorem dX2_has_9 : decode cX2_has 9 = .ok (.if_icmp .ge 7, 3) := by decide +kernel
theorem dX2_has_12 : decode cX2_has 12 = .ok (.iconst 1, 1) := by decide +kernel
theorem dX2_has_13 : decode cX2_has 13 = .ok (.goto 4, 3) := by decide +kernel
theorem dX2_has_16 : decode cX2_has 16 = .ok (.iconst 0, 1) := by decide +kernel
theorem dX2_has_17 : decode cX2_has 17 = .ok (.ireturn, 1) := by decide +kernel
theorem dX2_first_0 : decode cX2_first 0 = .ok (.iload_n 1, 1) := by decide +kernel
theorem dX2_first_1 : decode cX2_first 1 = .ok (.ifCond .lt 20, 3) := by decide +kernel
theorem dX2_first_4 : decode cX2_first 4 = .ok (.iload_n 1, 1) := by decide +kernel
theorem dX2_first_5 : decode cX2_first 5 = .ok (.aload_n 0, 1) := by decide +kernel
theorem dX2_first_6 : decode cX2_first 6 = .ok (.getfield 24, 3) := by decide +kernel
theorem dX2_first_9 : decode cX2_first 9 = .ok (.if_icmp .ge 12, 3) := by decide +kernel
theorem dX2_first_12 : decode cX2_first 12 = .ok (.aload_n 0, 1) := by decide +kernel
theorem dX2_first_13 : decode cX2_first 13 = .ok (.getfield 15, 3) := by decide +kernel
theorem dX2_first_16 : decode cX2_first 16 = .ok (.iload_n 1, 1) := by decide +kernel
theorem dX2_first_17 : decode cX2_first 17 = .ok (.iaload, 1) := by decide +kernel
theorem dX2_first_18 : decode cX2_first 18 = .ok (.goto 4, 3) := by decide +kernel
theorem dX2_first_21 : decode cX2_first 21 = .ok (.iconst 0, 1) := by decide +kernel
theorem dX2_first_22 : decode cX2_first 22 = .ok (.ireturn, 1) := by decide +kernel
theorem dX2_second_0 : decode cX2_second 0 = .ok (.iload_n 1, 1) := by decide +kernel
theorem dX2_second_1 : decode cX2_second 1 = .ok (.ifCond .lt 20, 3) := by decide +kernel
theorem dX2_second_4 : decode cX2_second 4 = .ok (.iload_n 1, 1) := by decide +kernel
theorem dX2_second_5 : decode cX2_second 5 = .ok (.aload_n 0, 1) := by decide +kernel
theorem dX2_second_6 : decode cX2_second 6 = .ok (.getfield 24, 3) := by decide +kernel
theorem dX2_second_9 : decode cX2_second 9 = .ok (.if_icmp .ge 12, 3) := by decide +kernel
theorem dX2_second_12 : decode cX2_second 12 = .ok (.aload_n 0, 1) := by decide +kernel
theorem dX2_second_13 : decode cX2_second 13 = .ok (.getfield 21, 3) := by decide +kernel
theorem dX2_second_16 : decode cX2_second 16 = .ok (.iload_n 1, 1) := by decide +kernel
theorem dX2_second_17 : decode cX2_second 17 = .ok (.iaload, 1) := by decide +kernel
theorem dX2_second_18 : decode cX2_second 18 = .ok (.goto 4, 3) := by decide +kernel
theorem dX2_second_21 : decode cX2_second 21 = .ok (.iconst 0, 1) := by decide +kernel
theorem dX2_second_22 : decode cX2_second 22 = .ok (.ireturn, 1) := by decide +kernel
theorem dX2_found_0 : decode cX2_found 0 = .ok (.aload_n 0, 1) := by decide +kernel
theorem dX2_found_1 : decode cX2_found 1 = .ok (.iload_n 1, 1) := by decide +kernel
theorem dX2_found_2 : decode cX2_found 2 = .ok (.invokevirtual 37, 3) := by decide +kernel
theorem dX2_found_5 : decode cX2_found 5 = .ok (.ifCond .ne 6, 3) := by decide +kernel
theorem dX2_found_8 : decode cX2_found 8 = .ok (.ldc 41, 2) := by decide +kernel
theorem dX2_found_10 : decode cX2_found 10 = .ok (.ireturn, 1) := by decide +kernel
theorem dX2_found_11 : decode cX2_found 11 = .ok (.iload_n 2, 1) := by decide +kernel
theorem dX2_found_12 : decode cX2_found 12 = .ok (.ifCond .ne 12, 3) := by decide +kernel
theorem dX2_found_15 : decode cX2_found 15 = .ok (.aload_n 0, 1) := by decide +kernel
theorem dX2_found_16 : decode cX2_found 16 = .ok (.getfield 15, 3) := by decide +kernel
theorem dX2_found_19 : decode cX2_found 19 = .ok (.iload_n 1, 1) := by decide +kernel
theorem dX2_found_20 : decode cX2_found 20 = .ok (.iaload, 1) := by decide +kernel
theorem dX2_found_21 : decode cX2_found 21 = .ok (.goto 9, 3) := by decide +kernel
theorem dX2_found_24 : decode cX2_found 24 = .ok (.aload_n 0, 1) := by decide +kernel
theorem dX2_found_25 : decode cX2_found 25 = .ok (.getfield 21, 3) := by decide +kernel
theorem dX2_found_28 : decode cX2_found 28 = .ok (.iload_n 1, 1) := by decide +kernel
theorem dX2_found_29 : decode cX2_found 29 = .ok (.iaload, 1) := by decide +kernel
theorem dX2_found_30 : decode cX2_found 30 = .ok (.ireturn, 1) := by decide +kernel
theorem dX2_append_0 : decode cX2_append 0 = .ok (.aload_n 0, 1) := by decide +kernel
theorem dX2_append_1 : decode cX2_append 1 = .ok (.getfield 24, 3) := by decide +kernel
theorem dX2_append_4 : decode cX2_append 4 = .ok (.aload_n 0, 1) := by decide +kernel
theorem dX2_append_5 : decode cX2_append 5 = .ok (.getfield 15, 3) := by decide +kernel
theorem dX2_append_8 : decode cX2_append 8 = .ok (.arraylength, 1) := by decide +kernel
theorem dX2_append_9 : decode cX2_append 9 = .ok (.if_icmp .ge 33, 3) := by decide +kernel
theorem dX2_append_12 : decode cX2_append 12 = .ok (.aload_n 0, 1) := by decide +kernel
theorem dX2_append_13 : decode cX2_append 13 = .ok (.getfield 15, 3) := by decide +kernel
theorem dX2_append_16 : decode cX2_append 16 = .ok (.aload_n 0, 1) := by decide +kernel
theorem dX2_append_17 : decode cX2_append 17 = .ok (.getfield 24, 3) := by decide +kernel
theorem dX2_append_20 : decode cX2_append 20 = .ok (.iload_n 1, 1) := by decide +kernel
theorem dX2_append_21 : decode cX2_append 21 = .ok (.iastore, 1) := by decide +kernel
theorem dX2_append_22 : decode cX2_append 22 = .ok (.aload_n 0, 1) := by decide +kernel
theorem dX2_append_23 : decode cX2_append 23 = .ok (.getfield 21, 3) := by decide +kernel
theorem dX2_append_26 : decode cX2_append 26 = .ok (.aload_n 0, 1) := by decide +kernel
theorem dX2_append_27 : decode cX2_append 27 = .ok (.getfield 24, 3) := by decide +kernel
theorem dX2_append_30 : decode cX2_append 30 = .ok (.iload_n 2, 1) := by decide +kernel
theorem dX2_append_31 : decode cX2_append 31 = .ok (.iastore, 1) := by decide +kernel
theorem dX2_append_32 : decode cX2_append 32 = .ok (.aload_n 0, 1) := by decide +kernel
theorem dX2_append_33 : decode cX2_append 33 = .ok (.dup, 1) := by decide +kernel
theorem dX2_append_34 : decode cX2_append 34 = .ok (.getfield 24, 3) := by decide +kernel
theorem dX2_append_37 : decode cX2_append 37 = .ok (.iconst 1, 1) := by decide +kernel
theorem dX2_append_38 : decode cX2_append 38 = .ok (.iadd, 1) := by decide +kernel
theorem dX2_append_39 : decode cX2_append 39 = .ok (.putfield 24, 3) := by decide +kernel
theorem dX2_append_42 : decode cX2_append 42 = .ok (.return_, 1) := by decide +kernel
theorem dX2_shrinkTo_0 : decode cX2_shrinkTo 0 = .ok (.aload_n 0, 1) := by decide +kernel
theorem dX2_shrinkTo_1 : decode cX2_shrinkTo 1 = .ok (.iconst 0, 1) := by decide +kernel
theorem dX2_shrinkTo_2 : decode cX2_shrinkTo 2 = .ok (.aload_n 0, 1) := by decide +kernel
theorem dX2_shrinkTo_3 : decode cX2_shrinkTo 3 = .ok (.getfield 24, 3) := by decide +kernel
theorem dX2_shrinkTo_6 : decode cX2_shrinkTo 6 = .ok (.iload_n 1, 1) := by decide +kernel
theorem dX2_shrinkTo_7 : decode cX2_shrinkTo 7 = .ok (.invokestatic 28, 3) := by decide +kernel
theorem dX2_shrinkTo_10 : decode cX2_shrinkTo 10 = .ok (.invokestatic 9, 3) := by decide +kernel
theorem dX2_shrinkTo_13 : decode cX2_shrinkTo 13 = .ok (.putfield 24, 3) := by decide +kernel
theorem dX2_shrinkTo_16 : decode cX2_shrinkTo 16 = .ok (.return_, 1) := by decide +kernel
theorem dX2_slotOf_0 : decode cX2_slotOf 0 = .ok (.iconst 0, 1) := by decide +kernel
theorem dX2_slotOf_1 : decode cX2_slotOf 1 = .ok (.istore_n 2, 1) := by decide +kernel
theorem dX2_slotOf_2 : decode cX2_slotOf 2 = .ok (.iload_n 2, 1) := by decide +kernel
theorem dX2_slotOf_3 : decode cX2_slotOf 3 = .ok (.aload_n 0, 1) := by decide +kernel
theorem dX2_slotOf_4 : decode cX2_slotOf 4 = .ok (.getfield 24, 3) := by decide +kernel
theorem dX2_slotOf_7 : decode cX2_slotOf 7 = .ok (.if_icmp .ge 21, 3) := by decide +kernel
theorem dX2_slotOf_10 : decode cX2_slotOf 10 = .ok (.aload_n 0, 1) := by decide +kernel
theorem dX2_slotOf_11 : decode cX2_slotOf 11 = .ok (.getfield 15, 3) := by decide +kernel
theorem dX2_slotOf_14 : decode cX2_slotOf 14 = .ok (.iload_n 2, 1) := by decide +kernel
theorem dX2_slotOf_15 : decode cX2_slotOf 15 = .ok (.iaload, 1) := by decide +kernel
theorem dX2_slotOf_16 : decode cX2_slotOf 16 = .ok (.iload_n 1, 1) := by decide +kernel
theorem dX2_slotOf_17 : decode cX2_slotOf 17 = .ok (.if_icmp .lt 5, 3) := by decide +kernel
theorem dX2_slotOf_20 : decode cX2_slotOf 20 = .ok (.iload_n 2, 1) := by decide +kernel
theorem dX2_slotOf_21 : decode cX2_slotOf 21 = .ok (.ireturn, 1) := by decide +kernel
theorem dX2_slotOf_22 : decode cX2_slotOf 22 = .ok (.iinc 2 1, 3) := by decide +kernel
theorem dX2_slotOf_25 : decode cX2_slotOf 25 = .ok (.goto (-23), 3) := by decide +kernel
theorem dX2_slotOf_28 : decode cX2_slotOf 28 = .ok (.aload_n 0, 1) := by decide +kernel
theorem dX2_slotOf_29 : decode cX2_slotOf 29 = .ok (.getfield 24, 3) := by decide +kernel
theorem dX2_slotOf_32 : decode cX2_slotOf 32 = .ok (.ireturn, 1) := by decide +kernel
theorem dX2_holds_0 : decode cX2_holds 0 = .ok (.aload_n 0, 1) := by decide +kernel
theorem dX2_holds_1 : decode cX2_holds 1 = .ok (.iload_n 1, 1) := by decide +kernel
theorem dX2_holds_2 : decode cX2_holds 2 = .ok (.invokevirtual 42, 3) := by decide +kernel
theorem dX2_holds_5 : decode cX2_holds 5 = .ok (.istore_n 2, 1) := by decide +kernel
theorem dX2_holds_6 : decode cX2_holds 6 = .ok (.aload_n 0, 1) := by decide +kernel
theorem dX2_holds_7 : decode cX2_holds 7 = .ok (.iload_n 2, 1) := by decide +kernel
theorem dX2_holds_8 : decode cX2_holds 8 = .ok (.invokevirtual 37, 3) := by decide +kernel
theorem dX2_holds_11 : decode cX2_holds 11 = .ok (.ifCond .eq 17, 3) := by decide +kernel
theorem dX2_holds_14 : decode cX2_holds 14 = .ok (.aload_n 0, 1) := by decide +kernel
theorem dX2_holds_15 : decode cX2_holds 15 = .ok (.getfield 15, 3) := by decide +kernel
theorem dX2_holds_18 : decode cX2_holds 18 = .ok (.iload_n 2, 1) := by decide +kernel
theorem dX2_holds_19 : decode cX2_holds 19 = .ok (.iaload, 1) := by decide +kernel
theorem dX2_holds_20 : decode cX2_holds 20 = .ok (.iload_n 1, 1) := by decide +kernel
theorem dX2_holds_21 : decode cX2_holds 21 = .ok (.if_icmp .ne 7, 3) := by decide +kernel
theorem dX2_holds_24 : decode cX2_holds 24 = .ok (.iconst 1, 1) := by decide +kernel
theorem dX2_holds_25 : decode cX2_holds 25 = .ok (.goto 4, 3) := by decide +kernel
theorem dX2_holds_28 : decode cX2_holds 28 = .ok (.iconst 0, 1) := by decide +kernel
theorem dX2_holds_29 : decode cX2_holds 29 = .ok (.ireturn, 1) := by decide +kernel
theorem dX2_hasRoomFor_0 : decode cX2_hasRoomFor 0 = .ok (.aload_n 0, 1) := by decide +kernel
theorem dX2_hasRoomFor_1 : decode cX2_hasRoomFor 1 = .ok (.getfield 24, 3) := by decide +kernel
theorem dX2_hasRoomFor_4 : decode cX2_hasRoomFor 4 = .ok (.aload_n 0, 1) := by decide +kernel
theorem dX2_hasRoomFor_5 : decode cX2_hasRoomFor 5 = .ok (.getfield 15, 3) := by decide +kernel
theorem dX2_hasRoomFor_8 : decode cX2_hasRoomFor 8 = .ok (.arraylength, 1) := by decide +kernel
theorem dX2_hasRoomFor_9 : decode cX2_hasRoomFor 9 = .ok (.if_icmp .lt 11, 3) := by decide +kernel
theorem dX2_hasRoomFor_12 : decode cX2_hasRoomFor 12 = .ok (.aload_n 0, 1) := by decide +kernel
theorem dX2_hasRoomFor_13 : decode cX2_hasRoomFor 13 = .ok (.iload_n 1, 1) := by decide +kernel
theorem dX2_hasRoomFor_14 : decode cX2_hasRoomFor 14 = .ok (.invokevirtual 46, 3) := by decide +kernel
theorem dX2_hasRoomFor_17 : decode cX2_hasRoomFor 17 = .ok (.ifCond .eq 7, 3) := by decide +kernel
theorem dX2_hasRoomFor_20 : decode cX2_hasRoomFor 20 = .ok (.iconst 1, 1) := by decide +kernel
theorem dX2_hasRoomFor_21 : decode cX2_hasRoomFor 21 = .ok (.goto 4, 3) := by decide +kernel
theorem dX2_hasRoomFor_24 : decode cX2_hasRoomFor 24 = .ok (.iconst 0, 1) := by decide +kernel
theorem dX2_hasRoomFor_25 : decode cX2_hasRoomFor 25 = .ok (.ireturn, 1) := by decide +kernel
theorem dX2_staysRising_0 : decode cX2_staysRising 0 = .ok (.aload_n 0, 1) := by decide +kernel
theorem dX2_staysRising_1 : decode cX2_staysRising 1 = .ok (.iload_n 1, 1) := by decide +kernel
theorem dX2_staysRising_2 : decode cX2_staysRising 2 = .ok (.invokevirtual 42, 3) := by decide +kernel
theorem dX2_staysRising_5 : decode cX2_staysRising 5 = .ok (.istore_n 3, 1) := by decide +kernel
theorem dX2_staysRising_6 : decode cX2_staysRising 6 = .ok (.aload_n 0, 1) := by decide +kernel
theorem dX2_staysRising_7 : decode cX2_staysRising 7 = .ok (.iload_n 1, 1) := by decide +kernel
theorem dX2_staysRising_8 : decode cX2_staysRising 8 = .ok (.invokevirtual 46, 3) := by decide +kernel
theorem dX2_staysRising_11 : decode cX2_staysRising 11 = .ok (.ifCond .eq 9, 3) := by decide +kernel
theorem dX2_staysRising_14 : decode cX2_staysRising 14 = .ok (.iload_n 3, 1) := by decide +kernel
theorem dX2_staysRising_15 : decode cX2_staysRising 15 = .ok (.iconst 1, 1) := by decide +kernel
theorem dX2_staysRising_16 : decode cX2_staysRising 16 = .ok (.iadd, 1) := by decide +kernel
theorem dX2_staysRising_17 : decode cX2_staysRising 17 = .ok (.goto 4, 3) := by decide +kernel
theorem dX2_staysRising_20 : decode cX2_staysRising 20 = .ok (.iload_n 3, 1) := by decide +kernel
theorem dX2_staysRising_21 : decode cX2_staysRising 21 = .ok (.istore 4, 2) := by decide +kernel
theorem dX2_staysRising_23 : decode cX2_staysRising 23 = .ok (.aload_n 0, 1) := by decide +kernel
theorem dX2_staysRising_24 : decode cX2_staysRising 24 = .ok (.iload_n 3, 1) := by decide +kernel
theorem dX2_staysRising_25 : decode cX2_staysRising 25 = .ok (.iconst 1, 1) := by decide +kernel
theorem dX2_staysRising_26 : decode cX2_staysRising 26 = .ok (.isub, 1) := by decide +kernel
theorem dX2_staysRising_27 : decode cX2_staysRising 27 = .ok (.invokevirtual 37, 3) := by decide +kernel
theorem dX2_staysRising_30 : decode cX2_staysRising 30 = .ok (.ifCond .eq 14, 3) := by decide +kernel
theorem dX2_staysRising_33 : decode cX2_staysRising 33 = .ok (.aload_n 0, 1) := by decide +kernel
theorem dX2_staysRising_34 : decode cX2_staysRising 34 = .ok (.iload_n 3, 1) := by decide +kernel
theorem dX2_staysRising_35 : decode cX2_staysRising 35 = .ok (.iconst 1, 1) := by decide +kernel
theorem dX2_staysRising_36 : decode cX2_staysRising 36 = .ok (.isub, 1) := by decide +kernel
theorem dX2_staysRising_37 : decode cX2_staysRising 37 = .ok (.invokevirtual 49, 3) := by decide +kernel
theorem dX2_staysRising_40 : decode cX2_staysRising 40 = .ok (.iload_n 2, 1) := by decide +kernel
theorem dX2_staysRising_41 : decode cX2_staysRising 41 = .ok (.if_icmp .ge 26, 3) := by decide +kernel
theorem dX2_staysRising_44 : decode cX2_staysRising 44 = .ok (.aload_n 0, 1) := by decide +kernel
theorem dX2_staysRising_45 : decode cX2_staysRising 45 = .ok (.iload 4, 2) := by decide +kernel
theorem dX2_staysRising_47 : decode cX2_staysRising 47 = .ok (.invokevirtual 37, 3) := by decide +kernel
theorem dX2_staysRising_50 : decode cX2_staysRising 50 = .ok (.ifCond .eq 13, 3) := by decide +kernel
theorem dX2_staysRising_53 : decode cX2_staysRising 53 = .ok (.iload_n 2, 1) := by decide +kernel
theorem dX2_staysRising_54 : decode cX2_staysRising 54 = .ok (.aload_n 0, 1) := by decide +kernel
theorem dX2_staysRising_55 : decode cX2_staysRising 55 = .ok (.iload 4, 2) := by decide +kernel
theorem dX2_staysRising_57 : decode cX2_staysRising 57 = .ok (.invokevirtual 49, 3) := by decide +kernel
theorem dX2_staysRising_60 : decode cX2_staysRising 60 = .ok (.if_icmp .ge 7, 3) := by decide +kernel
theorem dX2_staysRising_63 : decode cX2_staysRising 63 = .ok (.iconst 1, 1) := by decide +kernel
theorem dX2_staysRising_64 : decode cX2_staysRising 64 = .ok (.goto 4, 3) := by decide +kernel
theorem dX2_staysRising_67 : decode cX2_staysRising 67 = .ok (.iconst 0, 1) := by decide +kernel
theorem dX2_staysRising_68 : decode cX2_staysRising 68 = .ok (.ireturn, 1) := by decide +kernel
theorem dX2_lay_0 : decode cX2_lay 0 = .ok (.aload_n 0, 1) := by decide +kernel
theorem dX2_lay_1 : decode cX2_lay 1 = .ok (.iload_n 1, 1) := by decide +kernel
theorem dX2_lay_2 : decode cX2_lay 2 = .ok (.invokevirtual 42, 3) := by decide +kernel
theorem dX2_lay_5 : decode cX2_lay 5 = .ok (.istore_n 3, 1) := by decide +kernel
theorem dX2_lay_6 : decode cX2_lay 6 = .ok (.aload_n 0, 1) := by decide +kernel
theorem dX2_lay_7 : decode cX2_lay 7 = .ok (.iload_n 1, 1) := by decide +kernel
theorem dX2_lay_8 : decode cX2_lay 8 = .ok (.invokevirtual 46, 3) := by decide +kernel
theorem dX2_lay_11 : decode cX2_lay 11 = .ok (.ifCond .eq 13, 3) := by decide +kernel
theorem dX2_lay_14 : decode cX2_lay 14 = .ok (.aload_n 0, 1) := by decide +kernel
theorem dX2_lay_15 : decode cX2_lay 15 = .ok (.getfield 21, 3) := by decide +kernel
theorem dX2_lay_18 : decode cX2_lay 18 = .ok (.iload_n 3, 1) := by decide +kernel
theorem dX2_lay_19 : decode cX2_lay 19 = .ok (.iload_n 2, 1) := by decide +kernel
theorem dX2_lay_20 : decode cX2_lay 20 = .ok (.iastore, 1) := by decide +kernel
theorem dX2_lay_21 : decode cX2_lay 21 = .ok (.goto 81, 3) := by decide +kernel
theorem dX2_lay_24 : decode cX2_lay 24 = .ok (.aload_n 0, 1) := by decide +kernel
theorem dX2_lay_25 : decode cX2_lay 25 = .ok (.getfield 24, 3) := by decide +kernel
theorem dX2_lay_28 : decode cX2_lay 28 = .ok (.aload_n 0, 1) := by decide +kernel
theorem dX2_lay_29 : decode cX2_lay 29 = .ok (.getfield 15, 3) := by decide +kernel
theorem dX2_lay_32 : decode cX2_lay 32 = .ok (.arraylength, 1) := by decide +kernel
theorem dX2_lay_33 : decode cX2_lay 33 = .ok (.if_icmp .ge 69, 3) := by decide +kernel
theorem dX2_lay_36 : decode cX2_lay 36 = .ok (.aload_n 0, 1) := by decide +kernel
theorem dX2_lay_37 : decode cX2_lay 37 = .ok (.getfield 15, 3) := by decide +kernel
theorem dX2_lay_40 : decode cX2_lay 40 = .ok (.iload_n 3, 1) := by decide +kernel
theorem dX2_lay_41 : decode cX2_lay 41 = .ok (.aload_n 0, 1) := by decide +kernel
theorem dX2_lay_42 : decode cX2_lay 42 = .ok (.getfield 15, 3) := by decide +kernel
theorem dX2_lay_45 : decode cX2_lay 45 = .ok (.iload_n 3, 1) := by decide +kernel
theorem dX2_lay_46 : decode cX2_lay 46 = .ok (.iconst 1, 1) := by decide +kernel
theorem dX2_lay_47 : decode cX2_lay 47 = .ok (.iadd, 1) := by decide +kernel
theorem dX2_lay_48 : decode cX2_lay 48 = .ok (.aload_n 0, 1) := by decide +kernel
theorem dX2_lay_49 : decode cX2_lay 49 = .ok (.getfield 24, 3) := by decide +kernel
theorem dX2_lay_52 : decode cX2_lay 52 = .ok (.iload_n 3, 1) := by decide +kernel
theorem dX2_lay_53 : decode cX2_lay 53 = .ok (.isub, 1) := by decide +kernel
theorem dX2_lay_54 : decode cX2_lay 54 = .ok (.invokestatic 31, 3) := by decide +kernel
theorem dX2_lay_57 : decode cX2_lay 57 = .ok (.aload_n 0, 1) := by decide +kernel
theorem dX2_lay_58 : decode cX2_lay 58 = .ok (.getfield 21, 3) := by decide +kernel
theorem dX2_lay_61 : decode cX2_lay 61 = .ok (.iload_n 3, 1) := by decide +kernel
theorem dX2_lay_62 : decode cX2_lay 62 = .ok (.aload_n 0, 1) := by decide +kernel
theorem dX2_lay_63 : decode cX2_lay 63 = .ok (.getfield 21, 3) := by decide +kernel
theorem dX2_lay_66 : decode cX2_lay 66 = .ok (.iload_n 3, 1) := by decide +kernel
theorem dX2_lay_67 : decode cX2_lay 67 = .ok (.iconst 1, 1) := by decide +kernel
theorem dX2_lay_68 : decode cX2_lay 68 = .ok (.iadd, 1) := by decide +kernel
theorem dX2_lay_69 : decode cX2_lay 69 = .ok (.aload_n 0, 1) := by decide +kernel
theorem dX2_lay_70 : decode cX2_lay 70 = .ok (.getfield 24, 3) := by decide +kernel
theorem dX2_lay_73 : decode cX2_lay 73 = .ok (.iload_n 3, 1) := by decide +kernel
theorem dX2_lay_74 : decode cX2_lay 74 = .ok (.isub, 1) := by decide +kernel
theorem dX2_lay_75 : decode cX2_lay 75 = .ok (.invokestatic 31, 3) := by decide +kernel
theorem dX2_lay_78 : decode cX2_lay 78 = .ok (.aload_n 0, 1) := by decide +kernel
theorem dX2_lay_79 : decode cX2_lay 79 = .ok (.getfield 15, 3) := by decide +kernel
theorem dX2_lay_82 : decode cX2_lay 82 = .ok (.iload_n 3, 1) := by decide +kernel
theorem dX2_lay_83 : decode cX2_lay 83 = .ok (.iload_n 1, 1) := by decide +kernel
theorem dX2_lay_84 : decode cX2_lay 84 = .ok (.iastore, 1) := by decide +kernel
theorem dX2_lay_85 : decode cX2_lay 85 = .ok (.aload_n 0, 1) := by decide +kernel
theorem dX2_lay_86 : decode cX2_lay 86 = .ok (.getfield 21, 3) := by decide +kernel
theorem dX2_lay_89 : decode cX2_lay 89 = .ok (.iload_n 3, 1) := by decide +kernel
theorem dX2_lay_90 : decode cX2_lay 90 = .ok (.iload_n 2, 1) := by decide +kernel
theorem dX2_lay_91 : decode cX2_lay 91 = .ok (.iastore, 1) := by decide +kernel
theorem dX2_lay_92 : decode cX2_lay 92 = .ok (.aload_n 0, 1) := by decide +kernel
theorem dX2_lay_93 : decode cX2_lay 93 = .ok (.dup, 1) := by decide +kernel
theorem dX2_lay_94 : decode cX2_lay 94 = .ok (.getfield 24, 3) := by decide +kernel
theorem dX2_lay_97 : decode cX2_lay 97 = .ok (.iconst 1, 1) := by decide +kernel
theorem dX2_lay_98 : decode cX2_lay 98 = .ok (.iadd, 1) := by decide +kernel
theorem dX2_lay_99 : decode cX2_lay 99 = .ok (.putfield 24, 3) := by decide +kernel
theorem dX2_lay_102 : decode cX2_lay 102 = .ok (.return_, 1) := by decide +kernel
theorem dX2_valueAt_0 : decode cX2_valueAt 0 = .ok (.iload_n 1, 1) := by decide +kernel
theorem dX2_valueAt_1 : decode cX2_valueAt 1 = .ok (.aload_n 0, 1) := by decide +kernel
theorem dX2_valueAt_2 : decode cX2_valueAt 2 = .ok (.iconst 0, 1) := by decide +kernel
theorem dX2_valueAt_3 : decode cX2_valueAt 3 = .ok (.invokevirtual 52, 3) := by decide +kernel
theorem dX2_valueAt_6 : decode cX2_valueAt 6 = .ok (.iload_n 2, 1) := by decide +kernel
theorem dX2_valueAt_7 : decode cX2_valueAt 7 = .ok (.imul, 1) := by decide +kernel
theorem dX2_valueAt_8 : decode cX2_valueAt 8 = .ok (.if_icmp .gt 11, 3) := by decide +kernel
theorem dX2_valueAt_11 : decode cX2_valueAt 11 = .ok (.aload_n 0, 1) := by decide +kernel
theorem dX2_valueAt_12 : decode cX2_valueAt 12 = .ok (.iconst 0, 1) := by decide +kernel
theorem dX2_valueAt_13 : decode cX2_valueAt 13 = .ok (.invokevirtual 49, 3) := by decide +kernel
theorem dX2_valueAt_16 : decode cX2_valueAt 16 = .ok (.iload_n 2, 1) := by decide +kernel
theorem dX2_valueAt_17 : decode cX2_valueAt 17 = .ok (.imul, 1) := by decide +kernel
theorem dX2_valueAt_18 : decode cX2_valueAt 18 = .ok (.ireturn, 1) := by decide +kernel
theorem dX2_valueAt_19 : decode cX2_valueAt 19 = .ok (.iconst 1, 1) := by decide +kernel
theorem dX2_valueAt_20 : decode cX2_valueAt 20 = .ok (.istore_n 3, 1) := by decide +kernel
theorem dX2_valueAt_21 : decode cX2_valueAt 21 = .ok (.iload_n 3, 1) := by decide +kernel
theorem dX2_valueAt_22 : decode cX2_valueAt 22 = .ok (.aload_n 0, 1) := by decide +kernel
theorem dX2_valueAt_23 : decode cX2_valueAt 23 = .ok (.getfield 24, 3) := by decide +kernel
theorem dX2_valueAt_26 : decode cX2_valueAt 26 = .ok (.if_icmp .ge 29, 3) := by decide +kernel
theorem dX2_valueAt_29 : decode cX2_valueAt 29 = .ok (.iload_n 1, 1) := by decide +kernel
theorem dX2_valueAt_30 : decode cX2_valueAt 30 = .ok (.aload_n 0, 1) := by decide +kernel
theorem dX2_valueAt_31 : decode cX2_valueAt 31 = .ok (.getfield 15, 3) := by decide +kernel
theorem dX2_valueAt_34 : decode cX2_valueAt 34 = .ok (.iload_n 3, 1) := by decide +kernel
theorem dX2_valueAt_35 : decode cX2_valueAt 35 = .ok (.iaload, 1) := by decide +kernel
theorem dX2_valueAt_36 : decode cX2_valueAt 36 = .ok (.iload_n 2, 1) := by decide +kernel
theorem dX2_valueAt_37 : decode cX2_valueAt 37 = .ok (.imul, 1) := by decide +kernel
theorem dX2_valueAt_38 : decode cX2_valueAt 38 = .ok (.if_icmp .gt 11, 3) := by decide +kernel
theorem dX2_valueAt_41 : decode cX2_valueAt 41 = .ok (.aload_n 0, 1) := by decide +kernel
theorem dX2_valueAt_42 : decode cX2_valueAt 42 = .ok (.iload_n 3, 1) := by decide +kernel
theorem dX2_valueAt_43 : decode cX2_valueAt 43 = .ok (.iload_n 1, 1) := by decide +kernel
theorem dX2_valueAt_44 : decode cX2_valueAt 44 = .ok (.iload_n 2, 1) := by decide +kernel
theorem dX2_valueAt_45 : decode cX2_valueAt 45 = .ok (.invokevirtual 55, 3) := by decide +kernel
theorem dX2_valueAt_48 : decode cX2_valueAt 48 = .ok (.ireturn, 1) := by decide +kernel
theorem dX2_valueAt_49 : decode cX2_valueAt 49 = .ok (.iinc 3 1, 3) := by decide +kernel
theorem dX2_valueAt_52 : decode cX2_valueAt 52 = .ok (.goto (-31), 3) := by decide +kernel
theorem dX2_valueAt_55 : decode cX2_valueAt 55 = .ok (.aload_n 0, 1) := by decide +kernel
theorem dX2_valueAt_56 : decode cX2_valueAt 56 = .ok (.aload_n 0, 1) := by decide +kernel
theorem dX2_valueAt_57 : decode cX2_valueAt 57 = .ok (.getfield 24, 3) := by decide +kernel
theorem dX2_valueAt_60 : decode cX2_valueAt 60 = .ok (.iconst 1, 1) := by decide +kernel
theorem dX2_valueAt_61 : decode cX2_valueAt 61 = .ok (.isub, 1) := by decide +kernel
theorem dX2_valueAt_62 : decode cX2_valueAt 62 = .ok (.invokevirtual 49, 3) := by decide +kernel
theorem dX2_valueAt_65 : decode cX2_valueAt 65 = .ok (.iload_n 2, 1) := by decide +kernel
theorem dX2_valueAt_66 : decode cX2_valueAt 66 = .ok (.imul, 1) := by decide +kernel
theorem dX2_valueAt_67 : decode cX2_valueAt 67 = .ok (.ireturn, 1) := by decide +kernel
theorem dX2_between_0 : decode cX2_between 0 = .ok (.iload_n 1, 1) := by decide +kernel
theorem dX2_between_1 : decode cX2_between 1 = .ok (.iconst 1, 1) := by decide +kernel
theorem dX2_between_2 : decode cX2_between 2 = .ok (.if_icmp .lt 11, 3) := by decide +kernel
theorem dX2_between_5 : decode cX2_between 5 = .ok (.iload_n 1, 1) := by decide +kernel
theorem dX2_between_6 : decode cX2_between 6 = .ok (.aload_n 0, 1) := by decide +kernel
theorem dX2_between_7 : decode cX2_between 7 = .ok (.getfield 24, 3) := by decide +kernel
theorem dX2_between_10 : decode cX2_between 10 = .ok (.if_icmp .lt 5, 3) := by decide +kernel
theorem dX2_between_13 : decode cX2_between 13 = .ok (.iconst 0, 1) := by decide +kernel
theorem dX2_between_14 : decode cX2_between 14 = .ok (.ireturn, 1) := by decide +kernel
theorem dX2_between_15 : decode cX2_between 15 = .ok (.aload_n 0, 1) := by decide +kernel
theorem dX2_between_16 : decode cX2_between 16 = .ok (.getfield 15, 3) := by decide +kernel
theorem dX2_between_19 : decode cX2_between 19 = .ok (.iload_n 1, 1) := by decide +kernel
theorem dX2_between_20 : decode cX2_between 20 = .ok (.iconst 1, 1) := by decide +kernel
theorem dX2_between_21 : decode cX2_between 21 = .ok (.isub, 1) := by decide +kernel
theorem dX2_between_22 : decode cX2_between 22 = .ok (.iaload, 1) := by decide +kernel
theorem dX2_between_23 : decode cX2_between 23 = .ok (.iload_n 3, 1) := by decide +kernel
theorem dX2_between_24 : decode cX2_between 24 = .ok (.imul, 1) := by decide +kernel
theorem dX2_between_25 : decode cX2_between 25 = .ok (.istore 4, 2) := by decide +kernel
theorem dX2_between_27 : decode cX2_between 27 = .ok (.aload_n 0, 1) := by decide +kernel
theorem dX2_between_28 : decode cX2_between 28 = .ok (.getfield 21, 3) := by decide +kernel
theorem dX2_between_31 : decode cX2_between 31 = .ok (.iload_n 1, 1) := by decide +kernel
theorem dX2_between_32 : decode cX2_between 32 = .ok (.iconst 1, 1) := by decide +kernel
theorem dX2_between_33 : decode cX2_between 33 = .ok (.isub, 1) := by decide +kernel
theorem dX2_between_34 : decode cX2_between 34 = .ok (.iaload, 1) := by decide +kernel
theorem dX2_between_35 : decode cX2_between 35 = .ok (.iload_n 3, 1) := by decide +kernel
theorem dX2_between_36 : decode cX2_between 36 = .ok (.imul, 1) := by decide +kernel
theorem dX2_between_37 : decode cX2_between 37 = .ok (.istore 5, 2) := by decide +kernel
theorem dX2_between_39 : decode cX2_between 39 = .ok (.aload_n 0, 1) := by decide +kernel
theorem dX2_between_40 : decode cX2_between 40 = .ok (.getfield 15, 3) := by decide +kernel
theorem dX2_between_43 : decode cX2_between 43 = .ok (.iload_n 1, 1) := by decide +kernel
theorem dX2_between_44 : decode cX2_between 44 = .ok (.iaload, 1) := by decide +kernel
theorem dX2_between_45 : decode cX2_between 45 = .ok (.iload_n 3, 1) := by decide +kernel
theorem dX2_between_46 : decode cX2_between 46 = .ok (.imul, 1) := by decide +kernel
theorem dX2_between_47 : decode cX2_between 47 = .ok (.iload 4, 2) := by decide +kernel
theorem dX2_between_49 : decode cX2_between 49 = .ok (.isub, 1) := by decide +kernel
theorem dX2_between_50 : decode cX2_between 50 = .ok (.istore 6, 2) := by decide +kernel
theorem dX2_between_52 : decode cX2_between 52 = .ok (.aload_n 0, 1) := by decide +kernel
theorem dX2_between_53 : decode cX2_between 53 = .ok (.getfield 21, 3) := by decide +kernel
theorem dX2_between_56 : decode cX2_between 56 = .ok (.iload_n 1, 1) := by decide +kernel
theorem dX2_between_57 : decode cX2_between 57 = .ok (.iaload, 1) := by decide +kernel
theorem dX2_between_58 : decode cX2_between 58 = .ok (.iload_n 3, 1) := by decide +kernel
theorem dX2_between_59 : decode cX2_between 59 = .ok (.imul, 1) := by decide +kernel
theorem dX2_between_60 : decode cX2_between 60 = .ok (.iload 5, 2) := by decide +kernel
theorem dX2_between_62 : decode cX2_between 62 = .ok (.isub, 1) := by decide +kernel
theorem dX2_between_63 : decode cX2_between 63 = .ok (.istore 7, 2) := by decide +kernel
theorem dX2_between_65 : decode cX2_between 65 = .ok (.iload 6, 2) := by decide +kernel
theorem dX2_between_67 : decode cX2_between 67 = .ok (.ifCond .le 19, 3) := by decide +kernel
theorem dX2_between_70 : decode cX2_between 70 = .ok (.iload 5, 2) := by decide +kernel
theorem dX2_between_72 : decode cX2_between 72 = .ok (.iload 7, 2) := by decide +kernel
theorem dX2_between_74 : decode cX2_between 74 = .ok (.iload_n 2, 1) := by decide +kernel
theorem dX2_between_75 : decode cX2_between 75 = .ok (.iload 4, 2) := by decide +kernel
theorem dX2_between_77 : decode cX2_between 77 = .ok (.isub, 1) := by decide +kernel
theorem dX2_between_78 : decode cX2_between 78 = .ok (.imul, 1) := by decide +kernel
theorem dX2_between_79 : decode cX2_between 79 = .ok (.iload 6, 2) := by decide +kernel
theorem dX2_between_81 : decode cX2_between 81 = .ok (.idiv, 1) := by decide +kernel
theorem dX2_between_82 : decode cX2_between 82 = .ok (.iadd, 1) := by decide +kernel
theorem dX2_between_83 : decode cX2_between 83 = .ok (.goto 5, 3) := by decide +kernel
theorem dX2_between_86 : decode cX2_between 86 = .ok (.iload 5, 2) := by decide +kernel
theorem dX2_between_88 : decode cX2_between 88 = .ok (.ireturn, 1) := by decide +kernel
theorem dX3_init_0 : decode cX3_init 0 = .ok (.aload_n 0, 1) := by decide +kernel
theorem dX3_init_1 : decode cX3_init 1 = .ok (.invokespecial 3, 3) := by decide +kernel
theorem dX3_init_4 : decode cX3_init 4 = .ok (.aload_n 0, 1) := by decide +kernel
theorem dX3_init_5 : decode cX3_init 5 = .ok (.iconst 5, 1) := by decide +kernel
theorem dX3_init_6 : decode cX3_init 6 = .ok (.putfield 9, 3) := by decide +kernel
theorem dX3_init_9 : decode cX3_init 9 = .ok (.aload_n 0, 1) := by decide +kernel
theorem dX3_init_10 : decode cX3_init 10 = .ok (.bipush 10, 2) := by decide +kernel
theorem dX3_init_12 : decode cX3_init 12 = .ok (.putfield 15, 3) := by decide +kernel
theorem dX3_init_15 : decode cX3_init 15 = .ok (.aload_n 0, 1) := by decide +kernel
theorem dX3_init_16 : decode cX3_init 16 = .ok (.iconst 2, 1) := by decide +kernel
theorem dX3_init_17 : decode cX3_init 17 = .ok (.putfield 18, 3) := by decide +kernel
theorem dX3_init_20 : decode cX3_init 20 = .ok (.aload_n 0, 1) := by decide +kernel
theorem dX3_init_21 : decode cX3_init 21 = .ok (.new 21, 3) := by decide +kernel
theorem dX3_init_24 : decode cX3_init 24 = .ok (.dup, 1) := by decide +kernel
theorem dX3_init_25 : decode cX3_init 25 = .ok (.iload_n 1, 1) := by decide +kernel
theorem dX3_init_26 : decode cX3_init 26 = .ok (.invokespecial 23, 3) := by decide +kernel
theorem dX3_init_29 : decode cX3_init 29 = .ok (.putfield 26, 3) := by decide +kernel
theorem dX3_init_32 : decode cX3_init 32 = .ok (.aload_n 0, 1) := by decide +kernel
theorem dX3_init_33 : decode cX3_init 33 = .ok (.new 21, 3) := by decide +kernel
theorem dX3_init_36 : decode cX3_init 36 = .ok (.dup, 1) := by decide +kernel
theorem dX3_init_37 : decode cX3_init 37 = .ok (.bipush 8, 2) := by decide +kernel
theorem dX3_init_39 : decode cX3_init 39 = .ok (.invokespecial 23, 3) := by decide +kernel
theorem dX3_init_42 : decode cX3_init 42 = .ok (.putfield 30, 3) := by decide +kernel
theorem dX3_init_45 : decode cX3_init 45 = .ok (.aload_n 0, 1) := by decide +kernel
theorem dX3_init_46 : decode cX3_init 46 = .ok (.getfield 30, 3) := by decide +kernel
theorem dX3_init_49 : decode cX3_init 49 = .ok (.iconst 0, 1) := by decide +kernel
theorem dX3_init_50 : decode cX3_init 50 = .ok (.iconst 0, 1) := by decide +kernel
theorem dX3_init_51 : decode cX3_init 51 = .ok (.invokevirtual 33, 3) := by decide +kernel
theorem dX3_init_54 : decode cX3_init 54 = .ok (.aload_n 0, 1) := by decide +kernel
theorem dX3_init_55 : decode cX3_init 55 = .ok (.getfield 30, 3) := by decide +kernel
theorem dX3_init_58 : decode cX3_init 58 = .ok (.sipush 1000, 3) := by decide +kernel
theorem dX3_init_61 : decode cX3_init 61 = .ok (.sipush 10000, 3) := by decide +kernel
theorem dX3_init_64 : decode cX3_init 64 = .ok (.invokevirtual 33, 3) := by decide +kernel
theorem dX3_init_67 : decode cX3_init 67 = .ok (.return_, 1) := by decide +kernel
theorem dX3_copyFrom_0 : decode cX3_copyFrom 0 = .ok (.aload_n 0, 1) := by decide +kernel
theorem dX3_copyFrom_1 : decode cX3_copyFrom 1 = .ok (.aload_n 1, 1) := by decide +kernel
theorem dX3_copyFrom_2 : decode cX3_copyFrom 2 = .ok (.getfield 37, 3) := by decide +kernel
theorem dX3_copyFrom_5 : decode cX3_copyFrom 5 = .ok (.putfield 37, 3) := by decide +kernel
theorem dX3_copyFrom_8 : decode cX3_copyFrom 8 = .ok (.aload_n 0, 1) := by decide +kernel
theorem dX3_copyFrom_9 : decode cX3_copyFrom 9 = .ok (.aload_n 1, 1) := by decide +kernel
theorem dX3_copyFrom_10 : decode cX3_copyFrom 10 = .ok (.getfield 40, 3) := by decide +kernel
theorem dX3_copyFrom_13 : decode cX3_copyFrom 13 = .ok (.putfield 40, 3) := by decide +kernel
theorem dX3_copyFrom_16 : decode cX3_copyFrom 16 = .ok (.aload_n 0, 1) := by decide +kernel
theorem dX3_copyFrom_17 : decode cX3_copyFrom 17 = .ok (.aload_n 1, 1) := by decide +kernel
theorem dX3_copyFrom_18 : decode cX3_copyFrom 18 = .ok (.getfield 43, 3) := by decide +kernel
theorem dX3_copyFrom_21 : decode cX3_copyFrom 21 = .ok (.putfield 43, 3) := by decide +kernel
theorem dX3_copyFrom_24 : decode cX3_copyFrom 24 = .ok (.aload_n 0, 1) := by decide +kernel
theorem dX3_copyFrom_25 : decode cX3_copyFrom 25 = .ok (.aload_n 1, 1) := by decide +kernel
theorem dX3_copyFrom_26 : decode cX3_copyFrom 26 = .ok (.getfield 46, 3) := by decide +kernel
theorem dX3_copyFrom_29 : decode cX3_copyFrom 29 = .ok (.putfield 46, 3) := by decide +kernel
theorem dX3_copyFrom_32 : decode cX3_copyFrom 32 = .ok (.aload_n 0, 1) := by decide +kernel
theorem dX3_copyFrom_33 : decode cX3_copyFrom 33 = .ok (.aload_n 1, 1) := by decide +kernel
theorem dX3_copyFrom_34 : decode cX3_copyFrom 34 = .ok (.getfield 49, 3) := by decide +kernel
theorem dX3_copyFrom_37 : decode cX3_copyFrom 37 = .ok (.putfield 49, 3) := by decide +kernel
theorem dX3_copyFrom_40 : decode cX3_copyFrom 40 = .ok (.aload_n 0, 1) := by decide +kernel
theorem dX3_copyFrom_41 : decode cX3_copyFrom 41 = .ok (.aload_n 1, 1) := by decide +kernel
theorem dX3_copyFrom_42 : decode cX3_copyFrom 42 = .ok (.getfield 52, 3) := by decide +kernel
theorem dX3_copyFrom_45 : decode cX3_copyFrom 45 = .ok (.putfield 52, 3) := by decide +kernel
theorem dX3_copyFrom_48 : decode cX3_copyFrom 48 = .ok (.aload_n 0, 1) := by decide +kernel
theorem dX3_copyFrom_49 : decode cX3_copyFrom 49 = .ok (.aload_n 1, 1) := by decide +kernel
theorem dX3_copyFrom_50 : decode cX3_copyFrom 50 = .ok (.getfield 9, 3) := by decide +kernel
theorem dX3_copyFrom_53 : decode cX3_copyFrom 53 = .ok (.putfield 9, 3) := by decide +kernel
theorem dX3_copyFrom_56 : decode cX3_copyFrom 56 = .ok (.aload_n 0, 1) := by decide +kernel
theorem dX3_copyFrom_57 : decode cX3_copyFrom 57 = .ok (.aload_n 1, 1) := by decide +kernel
theorem dX3_copyFrom_58 : decode cX3_copyFrom 58 = .ok (.getfield 15, 3) := by decide +kernel
theorem dX3_copyFrom_61 : decode cX3_copyFrom 61 = .ok (.putfield 15, 3) := by decide +kernel
theorem dX3_copyFrom_64 : decode cX3_copyFrom 64 = .ok (.aload_n 0, 1) := by decide +kernel
theorem dX3_copyFrom_65 : decode cX3_copyFrom 65 = .ok (.aload_n 1, 1) := by decide +kernel
theorem dX3_copyFrom_66 : decode cX3_copyFrom 66 = .ok (.getfield 18, 3) := by decide +kernel
theorem dX3_copyFrom_69 : decode cX3_copyFrom 69 = .ok (.putfield 18, 3) := by decide +kernel
theorem dX3_copyFrom_72 : decode cX3_copyFrom 72 = .ok (.aload_n 0, 1) := by decide +kernel
theorem dX3_copyFrom_73 : decode cX3_copyFrom 73 = .ok (.getfield 26, 3) := by decide +kernel
theorem dX3_copyFrom_76 : decode cX3_copyFrom 76 = .ok (.aload_n 1, 1) := by decide +kernel
theorem dX3_copyFrom_77 : decode cX3_copyFrom 77 = .ok (.getfield 26, 3) := by decide +kernel
theorem dX3_copyFrom_80 : decode cX3_copyFrom 80 = .ok (.invokevirtual 56, 3) := by decide +kernel
theorem dX3_copyFrom_83 : decode cX3_copyFrom 83 = .ok (.aload_n 0, 1) := by decide +kernel
theorem dX3_copyFrom_84 : decode cX3_copyFrom 84 = .ok (.getfield 30, 3) := by decide +kernel
theorem dX3_copyFrom_87 : decode cX3_copyFrom 87 = .ok (.aload_n 1, 1) := by decide +kernel
theorem dX3_copyFrom_88 : decode cX3_copyFrom 88 = .ok (.getfield 30, 3) := by decide +kernel
theorem dX3_copyFrom_91 : decode cX3_copyFrom 91 = .ok (.invokevirtual 56, 3) := by decide +kernel
theorem dX3_copyFrom_94 : decode cX3_copyFrom 94 = .ok (.return_, 1) := by decide +kernel
theorem dX3_rest_0 : decode cX3_rest 0 = .ok (.aload_n 0, 1) := by decide +kernel
theorem dX3_rest_1 : decode cX3_rest 1 = .ok (.getfield 26, 3) := by decide +kernel
theorem dX3_rest_4 : decode cX3_rest 4 = .ok (.iconst 0, 1) := by decide +kernel
theorem dX3_rest_5 : decode cX3_rest 5 = .ok (.invokevirtual 63, 3) := by decide +kernel
theorem dX3_rest_8 : decode cX3_rest 8 = .ok (.aload_n 0, 1) := by decide +kernel
theorem dX3_rest_9 : decode cX3_rest 9 = .ok (.iconst 0, 1) := by decide +kernel
theorem dX3_rest_10 : decode cX3_rest 10 = .ok (.putfield 49, 3) := by decide +kernel
theorem dX3_rest_13 : decode cX3_rest 13 = .ok (.aload_n 0, 1) := by decide +kernel
theorem dX3_rest_14 : decode cX3_rest 14 = .ok (.iconst 0, 1) := by decide +kernel
theorem dX3_rest_15 : decode cX3_rest 15 = .ok (.putfield 40, 3) := by decide +kernel
theorem dX3_rest_18 : decode cX3_rest 18 = .ok (.aload_n 0, 1) := by decide +kernel
theorem dX3_rest_19 : decode cX3_rest 19 = .ok (.iconst 0, 1) := by decide +kernel
theorem dX3_rest_20 : decode cX3_rest 20 = .ok (.putfield 43, 3) := by decide +kernel
theorem dX3_rest_23 : decode cX3_rest 23 = .ok (.aload_n 0, 1) := by decide +kernel
theorem dX3_rest_24 : decode cX3_rest 24 = .ok (.lconst 0, 1) := by decide +kernel
theorem dX3_rest_25 : decode cX3_rest 25 = .ok (.putfield 52, 3) := by decide +kernel
theorem dX3_rest_28 : decode cX3_rest 28 = .ok (.aload_n 0, 1) := by decide +kernel
theorem dX3_rest_29 : decode cX3_rest 29 = .ok (.aload_n 0, 1) := by decide +kernel
theorem dX3_rest_30 : decode cX3_rest 30 = .ok (.invokevirtual 66, 3) := by decide +kernel
theorem dX3_rest_33 : decode cX3_rest 33 = .ok (.putfield 46, 3) := by decide +kernel
theorem dX3_rest_36 : decode cX3_rest 36 = .ok (.return_, 1) := by decide +kernel
theorem dX3_isUnturnedAtZero_0 : decode cX3_isUnturnedAtZero 0 = .ok (.aload_n 0, 1) := by decide +kernel
theorem dX3_isUnturnedAtZero_1 : decode cX3_isUnturnedAtZero 1 = .ok (.getfield 37, 3) := by decide +kernel
theorem dX3_isUnturnedAtZero_4 : decode cX3_isUnturnedAtZero 4 = .ok (.ifCond .ne 17, 3) := by decide +kernel
theorem dX3_isUnturnedAtZero_7 : decode cX3_isUnturnedAtZero 7 = .ok (.aload_n 0, 1) := by decide +kernel
theorem dX3_isUnturnedAtZero_8 : decode cX3_isUnturnedAtZero 8 = .ok (.getfield 26, 3) := by decide +kernel
theorem dX3_isUnturnedAtZero_11 : decode cX3_isUnturnedAtZero 11 = .ok (.getfield 70, 3) := by decide +kernel
theorem dX3_isUnturnedAtZero_14 : decode cX3_isUnturnedAtZero 14 = .ok (.ifCond .ne 7, 3) := by decide +kernel
theorem dX3_isUnturnedAtZero_17 : decode cX3_isUnturnedAtZero 17 = .ok (.iconst 1, 1) := by decide +kernel
theorem dX3_isUnturnedAtZero_18 : decode cX3_isUnturnedAtZero 18 = .ok (.goto 4, 3) := by decide +kernel
theorem dX3_isUnturnedAtZero_21 : decode cX3_isUnturnedAtZero 21 = .ok (.iconst 0, 1) := by decide +kernel
theorem dX3_isUnturnedAtZero_22 : decode cX3_isUnturnedAtZero 22 = .ok (.ireturn, 1) := by decide +kernel
theorem dX3_reach_0 : decode cX3_reach 0 = .ok (.aload_n 0, 1) := by decide +kernel
theorem dX3_reach_1 : decode cX3_reach 1 = .ok (.getfield 40, 3) := by decide +kernel
theorem dX3_reach_4 : decode cX3_reach 4 = .ok (.aload_n 0, 1) := by decide +kernel
theorem dX3_reach_5 : decode cX3_reach 5 = .ok (.getfield 43, 3) := by decide +kernel
theorem dX3_reach_8 : decode cX3_reach 8 = .ok (.iadd, 1) := by decide +kernel
theorem dX3_reach_9 : decode cX3_reach 9 = .ok (.ireturn, 1) := by decide +kernel
theorem dX3_changeLoad_0 : decode cX3_changeLoad 0 = .ok (.iload_n 1, 1) := by decide +kernel
theorem dX3_changeLoad_1 : decode cX3_changeLoad 1 = .ok (.aload_n 0, 1) := by decide +kernel
theorem dX3_changeLoad_2 : decode cX3_changeLoad 2 = .ok (.getfield 37, 3) := by decide +kernel
theorem dX3_changeLoad_5 : decode cX3_changeLoad 5 = .ok (.if_icmp .ne 4, 3) := by decide +kernel
theorem dX3_changeLoad_8 : decode cX3_changeLoad 8 = .ok (.return_, 1) := by decide +kernel
theorem dX3_changeLoad_9 : decode cX3_changeLoad 9 = .ok (.aload_n 0, 1) := by decide +kernel
theorem dX3_changeLoad_10 : decode cX3_changeLoad 10 = .ok (.invokevirtual 66, 3) := by decide +kernel
theorem dX3_changeLoad_13 : decode cX3_changeLoad 13 = .ok (.istore_n 2, 1) := by decide +kernel
theorem dX3_changeLoad_14 : decode cX3_changeLoad 14 = .ok (.aload_n 0, 1) := by decide +kernel
theorem dX3_changeLoad_15 : decode cX3_changeLoad 15 = .ok (.iload_n 1, 1) := by decide +kernel
theorem dX3_changeLoad_16 : decode cX3_changeLoad 16 = .ok (.aload_n 0, 1) := by decide +kernel
theorem dX3_changeLoad_17 : decode cX3_changeLoad 17 = .ok (.getfield 37, 3) := by decide +kernel
theorem dX3_changeLoad_20 : decode cX3_changeLoad 20 = .ok (.if_icmp .le 7, 3) := by decide +kernel
theorem dX3_changeLoad_23 : decode cX3_changeLoad 23 = .ok (.iconst 1, 1) := by decide +kernel
theorem dX3_changeLoad_24 : decode cX3_changeLoad 24 = .ok (.goto 4, 3) := by decide +kernel
theorem dX3_changeLoad_27 : decode cX3_changeLoad 27 = .ok (.iconst (-1), 1) := by decide +kernel
theorem dX3_changeLoad_28 : decode cX3_changeLoad 28 = .ok (.invokevirtual 73, 3) := by decide +kernel
theorem dX3_changeLoad_31 : decode cX3_changeLoad 31 = .ok (.aload_n 0, 1) := by decide +kernel
theorem dX3_changeLoad_32 : decode cX3_changeLoad 32 = .ok (.iload_n 1, 1) := by decide +kernel
theorem dX3_changeLoad_33 : decode cX3_changeLoad 33 = .ok (.invokevirtual 76, 3) := by decide +kernel
theorem dX3_changeLoad_36 : decode cX3_changeLoad 36 = .ok (.aload_n 0, 1) := by decide +kernel
theorem dX3_changeLoad_37 : decode cX3_changeLoad 37 = .ok (.iload_n 1, 1) := by decide +kernel
theorem dX3_changeLoad_38 : decode cX3_changeLoad 38 = .ok (.invokevirtual 79, 3) := by decide +kernel
theorem dX3_changeLoad_41 : decode cX3_changeLoad 41 = .ok (.istore_n 3, 1) := by decide +kernel
theorem dX3_changeLoad_42 : decode cX3_changeLoad 42 = .ok (.aload_n 0, 1) := by decide +kernel
theorem dX3_changeLoad_43 : decode cX3_changeLoad 43 = .ok (.dup, 1) := by decide +kernel
theorem dX3_changeLoad_44 : decode cX3_changeLoad 44 = .ok (.getfield 52, 3) := by decide +kernel
theorem dX3_changeLoad_47 : decode cX3_changeLoad 47 = .ok (.aload_n 0, 1) := by decide +kernel
theorem dX3_changeLoad_48 : decode cX3_changeLoad 48 = .ok (.getfield 37, 3) := by decide +kernel
theorem dX3_changeLoad_51 : decode cX3_changeLoad 51 = .ok (.iload_n 1, 1) := by decide +kernel
theorem dX3_changeLoad_52 : decode cX3_changeLoad 52 = .ok (.iadd, 1) := by decide +kernel
theorem dX3_changeLoad_53 : decode cX3_changeLoad 53 = .ok (.i2l, 1) := by decide +kernel
theorem dX3_changeLoad_54 : decode cX3_changeLoad 54 = .ok (.iload_n 3, 1) := by decide +kernel
theorem dX3_changeLoad_55 : decode cX3_changeLoad 55 = .ok (.aload_n 0, 1) := by decide +kernel
theorem dX3_changeLoad_56 : decode cX3_changeLoad 56 = .ok (.getfield 40, 3) := by decide +kernel
theorem dX3_changeLoad_59 : decode cX3_changeLoad 59 = .ok (.isub, 1) := by decide +kernel
theorem dX3_changeLoad_60 : decode cX3_changeLoad 60 = .ok (.i2l, 1) := by decide +kernel
theorem dX3_changeLoad_61 : decode cX3_changeLoad 61 = .ok (.lmul, 1) := by decide +kernel
theorem dX3_changeLoad_62 : decode cX3_changeLoad 62 = .ok (.ladd, 1) := by decide +kernel
theorem dX3_changeLoad_63 : decode cX3_changeLoad 63 = .ok (.putfield 52, 3) := by decide +kernel
theorem dX3_changeLoad_66 : decode cX3_changeLoad 66 = .ok (.aload_n 0, 1) := by decide +kernel
theorem dX3_changeLoad_67 : decode cX3_changeLoad 67 = .ok (.iload_n 1, 1) := by decide +kernel
theorem dX3_changeLoad_68 : decode cX3_changeLoad 68 = .ok (.putfield 37, 3) := by decide +kernel
theorem dX3_changeLoad_71 : decode cX3_changeLoad 71 = .ok (.aload_n 0, 1) := by decide +kernel
theorem dX3_changeLoad_72 : decode cX3_changeLoad 72 = .ok (.iload_n 3, 1) := by decide +kernel
theorem dX3_changeLoad_73 : decode cX3_changeLoad 73 = .ok (.putfield 40, 3) := by decide +kernel
theorem dX3_changeLoad_76 : decode cX3_changeLoad 76 = .ok (.aload_n 0, 1) := by decide +kernel
theorem dX3_changeLoad_77 : decode cX3_changeLoad 77 = .ok (.iload_n 2, 1) := by decide +kernel
theorem dX3_changeLoad_78 : decode cX3_changeLoad 78 = .ok (.invokevirtual 83, 3) := by decide +kernel
theorem dX3_changeLoad_81 : decode cX3_changeLoad 81 = .ok (.return_, 1) := by decide +kernel
theorem dX3_turnTo_0 : decode cX3_turnTo 0 = .ok (.aload_n 0, 1) := by decide +kernel
theorem dX3_turnTo_1 : decode cX3_turnTo 1 = .ok (.getfield 49, 3) := by decide +kernel
theorem dX3_turnTo_4 : decode cX3_turnTo 4 = .ok (.iload_n 1, 1) := by decide +kernel
theorem dX3_turnTo_5 : decode cX3_turnTo 5 = .ok (.ineg, 1) := by decide +kernel
theorem dX3_turnTo_6 : decode cX3_turnTo 6 = .ok (.if_icmp .ne 18, 3) := by decide +kernel
theorem dX3_turnTo_9 : decode cX3_turnTo 9 = .ok (.aload_n 0, 1) := by decide +kernel
theorem dX3_turnTo_10 : decode cX3_turnTo 10 = .ok (.getfield 26, 3) := by decide +kernel
theorem dX3_turnTo_13 : decode cX3_turnTo 13 = .ok (.aload_n 0, 1) := by decide +kernel
theorem dX3_turnTo_14 : decode cX3_turnTo 14 = .ok (.getfield 37, 3) := by decide +kernel
theorem dX3_turnTo_17 : decode cX3_turnTo 17 = .ok (.aload_n 0, 1) := by decide +kernel
theorem dX3_turnTo_18 : decode cX3_turnTo 18 = .ok (.getfield 40, 3) := by decide +kernel
theorem dX3_turnTo_21 : decode cX3_turnTo 21 = .ok (.invokevirtual 33, 3) := by decide +kernel
theorem dX3_turnTo_24 : decode cX3_turnTo 24 = .ok (.aload_n 0, 1) := by decide +kernel
theorem dX3_turnTo_25 : decode cX3_turnTo 25 = .ok (.iload_n 1, 1) := by decide +kernel
theorem dX3_turnTo_26 : decode cX3_turnTo 26 = .ok (.putfield 49, 3) := by decide +kernel
theorem dX3_turnTo_29 : decode cX3_turnTo 29 = .ok (.return_, 1) := by decide +kernel
theorem dX3_forgetPassedTurns_0 : decode cX3_forgetPassedTurns 0 = .ok (.aload_n 0, 1) := by decide +kernel
theorem dX3_forgetPassedTurns_1 : decode cX3_forgetPassedTurns 1 = .ok (.getfield 26, 3) := by decide +kernel
theorem dX3_forgetPassedTurns_4 : decode cX3_forgetPassedTurns 4 = .ok (.getfield 70, 3) := by decide +kernel
theorem dX3_forgetPassedTurns_7 : decode cX3_forgetPassedTurns 7 = .ok (.istore_n 2, 1) := by decide +kernel
theorem dX3_forgetPassedTurns_8 : decode cX3_forgetPassedTurns 8 = .ok (.iload_n 2, 1) := by decide +kernel
theorem dX3_forgetPassedTurns_9 : decode cX3_forgetPassedTurns 9 = .ok (.iconst 2, 1) := by decide +kernel
theorem dX3_forgetPassedTurns_10 : decode cX3_forgetPassedTurns 10 = .ok (.if_icmp .lt 37, 3) := by decide +kernel
theorem dX3_forgetPassedTurns_13 : decode cX3_forgetPassedTurns 13 = .ok (.aload_n 0, 1) := by decide +kernel
theorem dX3_forgetPassedTurns_14 : decode cX3_forgetPassedTurns 14 = .ok (.aload_n 0, 1) := by decide +kernel
theorem dX3_forgetPassedTurns_15 : decode cX3_forgetPassedTurns 15 = .ok (.getfield 26, 3) := by decide +kernel
theorem dX3_forgetPassedTurns_18 : decode cX3_forgetPassedTurns 18 = .ok (.iload_n 2, 1) := by decide +kernel
theorem dX3_forgetPassedTurns_19 : decode cX3_forgetPassedTurns 19 = .ok (.iconst 2, 1) := by decide +kernel
theorem dX3_forgetPassedTurns_20 : decode cX3_forgetPassedTurns 20 = .ok (.isub, 1) := by decide +kernel
theorem dX3_forgetPassedTurns_21 : decode cX3_forgetPassedTurns 21 = .ok (.invokevirtual 86, 3) := by decide +kernel
theorem dX3_forgetPassedTurns_24 : decode cX3_forgetPassedTurns 24 = .ok (.iload_n 1, 1) := by decide +kernel
theorem dX3_forgetPassedTurns_25 : decode cX3_forgetPassedTurns 25 = .ok (.invokevirtual 89, 3) := by decide +kernel
theorem dX3_forgetPassedTurns_28 : decode cX3_forgetPassedTurns 28 = .ok (.ifCond .eq 19, 3) := by decide +kernel
theorem dX3_forgetPassedTurns_31 : decode cX3_forgetPassedTurns 31 = .ok (.aload_n 0, 1) := by decide +kernel
theorem dX3_forgetPassedTurns_32 : decode cX3_forgetPassedTurns 32 = .ok (.getfield 26, 3) := by decide +kernel
theorem dX3_forgetPassedTurns_35 : decode cX3_forgetPassedTurns 35 = .ok (.iload_n 2, 1) := by decide +kernel
theorem dX3_forgetPassedTurns_36 : decode cX3_forgetPassedTurns 36 = .ok (.iconst 2, 1) := by decide +kernel
theorem dX3_forgetPassedTurns_37 : decode cX3_forgetPassedTurns 37 = .ok (.isub, 1) := by decide +kernel
theorem dX3_forgetPassedTurns_38 : decode cX3_forgetPassedTurns 38 = .ok (.invokevirtual 63, 3) := by decide +kernel
theorem dX3_forgetPassedTurns_41 : decode cX3_forgetPassedTurns 41 = .ok (.iinc 2 (-2), 3) := by decide +kernel
theorem dX3_forgetPassedTurns_44 : decode cX3_forgetPassedTurns 44 = .ok (.goto (-36), 3) := by decide +kernel
theorem dX3_forgetPassedTurns_47 : decode cX3_forgetPassedTurns 47 = .ok (.return_, 1) := by decide +kernel
theorem dX3_isReached_0 : decode cX3_isReached 0 = .ok (.aload_n 0, 1) := by decide +kernel
theorem dX3_isReached_1 : decode cX3_isReached 1 = .ok (.getfield 49, 3) := by decide +kernel
theorem dX3_isReached_4 : decode cX3_isReached 4 = .ok (.ifCond .le 16, 3) := by decide +kernel
theorem dX3_isReached_7 : decode cX3_isReached 7 = .ok (.iload_n 2, 1) := by decide +kernel
theorem dX3_isReached_8 : decode cX3_isReached 8 = .ok (.iload_n 1, 1) := by decide +kernel
theorem dX3_isReached_9 : decode cX3_isReached 9 = .ok (.if_icmp .lt 7, 3) := by decide +kernel
theorem dX3_isReached_12 : decode cX3_isReached 12 = .ok (.iconst 1, 1) := by decide +kernel
theorem dX3_isReached_13 : decode cX3_isReached 13 = .ok (.goto 17, 3) := by decide +kernel
theorem dX3_isReached_16 : decode cX3_isReached 16 = .ok (.iconst 0, 1) := by decide +kernel
theorem dX3_isReached_17 : decode cX3_isReached 17 = .ok (.goto 13, 3) := by decide +kernel
theorem dX3_isReached_20 : decode cX3_isReached 20 = .ok (.iload_n 2, 1) := by decide +kernel
theorem dX3_isReached_21 : decode cX3_isReached 21 = .ok (.iload_n 1, 1) := by decide +kernel
theorem dX3_isReached_22 : decode cX3_isReached 22 = .ok (.if_icmp .gt 7, 3) := by decide +kernel
theorem dX3_isReached_25 : decode cX3_isReached 25 = .ok (.iconst 1, 1) := by decide +kernel
theorem dX3_isReached_26 : decode cX3_isReached 26 = .ok (.goto 4, 3) := by decide +kernel
theorem dX3_isReached_29 : decode cX3_isReached 29 = .ok (.iconst 0, 1) := by decide +kernel
theorem dX3_isReached_30 : decode cX3_isReached 30 = .ok (.ireturn, 1) := by decide +kernel
theorem dX3_extensionBehindTurns_0 : decode cX3_extensionBehindTurns 0 = .ok (.aload_n 0, 1) := by decide +kernel
theorem dX3_extensionBehindTurns_1 : decode cX3_extensionBehindTurns 1 = .ok (.getfield 26, 3) := by decide +kernel
theorem dX3_extensionBehindTurns_4 : decode cX3_extensionBehindTurns 4 = .ok (.getfield 70, 3) := by decide +kernel
theorem dX3_extensionBehindTurns_7 : decode cX3_extensionBehindTurns 7 = .ok (.iconst 1, 1) := by decide +kernel
theorem dX3_extensionBehindTurns_8 : decode cX3_extensionBehindTurns 8 = .ok (.isub, 1) := by decide +kernel
theorem dX3_extensionBehindTurns_9 : decode cX3_extensionBehindTurns 9 = .ok (.istore_n 2, 1) := by decide +kernel
theorem dX3_extensionBehindTurns_10 : decode cX3_extensionBehindTurns 10 = .ok (.iload_n 2, 1) := by decide +kernel
theorem dX3_extensionBehindTurns_11 : decode cX3_extensionBehindTurns 11 = .ok (.ifCond .ge 13, 3) := by decide +kernel
theorem dX3_extensionBehindTurns_14 : decode cX3_extensionBehindTurns 14 = .ok (.aload_n 0, 1) := by decide +kernel
theorem dX3_extensionBehindTurns_15 : decode cX3_extensionBehindTurns 15 = .ok (.getfield 30, 3) := by decide +kernel
theorem dX3_extensionBehindTurns_18 : decode cX3_extensionBehindTurns 18 = .ok (.iload_n 1, 1) := by decide +kernel
theorem dX3_extensionBehindTurns_19 : decode cX3_extensionBehindTurns 19 = .ok (.iconst 1, 1) := by decide +kernel
theorem dX3_extensionBehindTurns_20 : decode cX3_extensionBehindTurns 20 = .ok (.invokevirtual 93, 3) := by decide +kernel
theorem dX3_extensionBehindTurns_23 : decode cX3_extensionBehindTurns 23 = .ok (.ireturn, 1) := by decide +kernel
theorem dX3_extensionBehindTurns_24 : decode cX3_extensionBehindTurns 24 = .ok (.aload_n 0, 1) := by decide +kernel
theorem dX3_extensionBehindTurns_25 : decode cX3_extensionBehindTurns 25 = .ok (.getfield 26, 3) := by decide +kernel
theorem dX3_extensionBehindTurns_28 : decode cX3_extensionBehindTurns 28 = .ok (.iload_n 2, 1) := by decide +kernel
theorem dX3_extensionBehindTurns_29 : decode cX3_extensionBehindTurns 29 = .ok (.invokevirtual 86, 3) := by decide +kernel
theorem dX3_extensionBehindTurns_32 : decode cX3_extensionBehindTurns 32 = .ok (.istore_n 3, 1) := by decide +kernel
theorem dX3_extensionBehindTurns_33 : decode cX3_extensionBehindTurns 33 = .ok (.aload_n 0, 1) := by decide +kernel
theorem dX3_extensionBehindTurns_34 : decode cX3_extensionBehindTurns 34 = .ok (.getfield 26, 3) := by decide +kernel
theorem dX3_extensionBehindTurns_37 : decode cX3_extensionBehindTurns 37 = .ok (.iload_n 2, 1) := by decide +kernel
theorem dX3_extensionBehindTurns_38 : decode cX3_extensionBehindTurns 38 = .ok (.invokevirtual 97, 3) := by decide +kernel
theorem dX3_extensionBehindTurns_41 : decode cX3_extensionBehindTurns 41 = .ok (.istore 4, 2) := by decide +kernel
theorem dX3_extensionBehindTurns_43 : decode cX3_extensionBehindTurns 43 = .ok (.iload 4, 2) := by decide +kernel
theorem dX3_extensionBehindTurns_45 : decode cX3_extensionBehindTurns 45 = .ok (.aload_n 0, 1) := by decide +kernel
theorem dX3_extensionBehindTurns_46 : decode cX3_extensionBehindTurns 46 = .ok (.getfield 49, 3) := by decide +kernel
theorem dX3_extensionBehindTurns_49 : decode cX3_extensionBehindTurns 49 = .ok (.aload_n 0, 1) := by decide +kernel
theorem dX3_extensionBehindTurns_50 : decode cX3_extensionBehindTurns 50 = .ok (.getfield 30, 3) := by decide +kernel
theorem dX3_extensionBehindTurns_53 : decode cX3_extensionBehindTurns 53 = .ok (.iload_n 1, 1) := by decide +kernel
theorem dX3_extensionBehindTurns_54 : decode cX3_extensionBehindTurns 54 = .ok (.iload_n 3, 1) := by decide +kernel
theorem dX3_extensionBehindTurns_55 : decode cX3_extensionBehindTurns 55 = .ok (.isub, 1) := by decide +kernel
theorem dX3_extensionBehindTurns_56 : decode cX3_extensionBehindTurns 56 = .ok (.invokestatic 100, 3) := by decide +kernel
theorem dX3_extensionBehindTurns_59 : decode cX3_extensionBehindTurns 59 = .ok (.iconst 2, 1) := by decide +kernel
theorem dX3_extensionBehindTurns_60 : decode cX3_extensionBehindTurns 60 = .ok (.invokevirtual 93, 3) := by decide +kernel
theorem dX3_extensionBehindTurns_63 : decode cX3_extensionBehindTurns 63 = .ok (.imul, 1) := by decide +kernel
theorem dX3_extensionBehindTurns_64 : decode cX3_extensionBehindTurns 64 = .ok (.iadd, 1) := by decide +kernel
theorem dX3_extensionBehindTurns_65 : decode cX3_extensionBehindTurns 65 = .ok (.ireturn, 1) := by decide +kernel
theorem dX3_extensionFromTurns_0 : decode cX3_extensionFromTurns 0 = .ok (.aload_n 0, 1) := by decide +kernel
theorem dX3_extensionFromTurns_1 : decode cX3_extensionFromTurns 1 = .ok (.getfield 26, 3) := by decide +kernel
theorem dX3_extensionFromTurns_4 : decode cX3_extensionFromTurns 4 = .ok (.getfield 70, 3) := by decide +kernel
theorem dX3_extensionFromTurns_7 : decode cX3_extensionFromTurns 7 = .ok (.ifCond .ne 16, 3) := by decide +kernel
theorem dX3_extensionFromTurns_10 : decode cX3_extensionFromTurns 10 = .ok (.aload_n 0, 1) := by decide +kernel
theorem dX3_extensionFromTurns_11 : decode cX3_extensionFromTurns 11 = .ok (.getfield 30, 3) := by decide +kernel
theorem dX3_extensionFromTurns_14 : decode cX3_extensionFromTurns 14 = .ok (.aload_n 0, 1) := by decide +kernel
theorem dX3_extensionFromTurns_15 : decode cX3_extensionFromTurns 15 = .ok (.getfield 37, 3) := by decide +kernel
theorem dX3_extensionFromTurns_18 : decode cX3_extensionFromTurns 18 = .ok (.iconst 1, 1) := by decide +kernel
theorem dX3_extensionFromTurns_19 : decode cX3_extensionFromTurns 19 = .ok (.invokevirtual 93, 3) := by decide +kernel
theorem dX3_extensionFromTurns_22 : decode cX3_extensionFromTurns 22 = .ok (.ireturn, 1) := by decide +kernel
theorem dX3_extensionFromTurns_23 : decode cX3_extensionFromTurns 23 = .ok (.aload_n 0, 1) := by decide +kernel
theorem dX3_extensionFromTurns_24 : decode cX3_extensionFromTurns 24 = .ok (.getfield 30, 3) := by decide +kernel
theorem dX3_extensionFromTurns_27 : decode cX3_extensionFromTurns 27 = .ok (.aload_n 0, 1) := by decide +kernel
theorem dX3_extensionFromTurns_28 : decode cX3_extensionFromTurns 28 = .ok (.getfield 26, 3) := by decide +kernel
theorem dX3_extensionFromTurns_31 : decode cX3_extensionFromTurns 31 = .ok (.iconst 0, 1) := by decide +kernel
theorem dX3_extensionFromTurns_32 : decode cX3_extensionFromTurns 32 = .ok (.invokevirtual 86, 3) := by decide +kernel
theorem dX3_extensionFromTurns_35 : decode cX3_extensionFromTurns 35 = .ok (.iconst 1, 1) := by decide +kernel
theorem dX3_extensionFromTurns_36 : decode cX3_extensionFromTurns 36 = .ok (.invokevirtual 93, 3) := by decide +kernel
theorem dX3_extensionFromTurns_39 : decode cX3_extensionFromTurns 39 = .ok (.istore_n 1, 1) := by decide +kernel
theorem dX3_extensionFromTurns_40 : decode cX3_extensionFromTurns 40 = .ok (.iconst (-1), 1) := by decide +kernel
theorem dX3_extensionFromTurns_41 : decode cX3_extensionFromTurns 41 = .ok (.istore_n 2, 1) := by decide +kernel
theorem dX3_extensionFromTurns_42 : decode cX3_extensionFromTurns 42 = .ok (.iconst 1, 1) := by decide +kernel
theorem dX3_extensionFromTurns_43 : decode cX3_extensionFromTurns 43 = .ok (.istore_n 3, 1) := by decide +kernel
theorem dX3_extensionFromTurns_44 : decode cX3_extensionFromTurns 44 = .ok (.iload_n 3, 1) := by decide +kernel
theorem dX3_extensionFromTurns_45 : decode cX3_extensionFromTurns 45 = .ok (.aload_n 0, 1) := by decide +kernel
theorem dX3_extensionFromTurns_46 : decode cX3_extensionFromTurns 46 = .ok (.getfield 26, 3) := by decide +kernel
theorem dX3_extensionFromTurns_49 : decode cX3_extensionFromTurns 49 = .ok (.getfield 70, 3) := by decide +kernel
theorem dX3_extensionFromTurns_52 : decode cX3_extensionFromTurns 52 = .ok (.if_icmp .gt 69, 3) := by decide +kernel
theorem dX3_extensionFromTurns_55 : decode cX3_extensionFromTurns 55 = .ok (.iload_n 3, 1) := by decide +kernel
theorem dX3_extensionFromTurns_56 : decode cX3_extensionFromTurns 56 = .ok (.aload_n 0, 1) := by decide +kernel
theorem dX3_extensionFromTurns_57 : decode cX3_extensionFromTurns 57 = .ok (.getfield 26, 3) := by decide +kernel
theorem dX3_extensionFromTurns_60 : decode cX3_extensionFromTurns 60 = .ok (.getfield 70, 3) := by decide +kernel
theorem dX3_extensionFromTurns_63 : decode cX3_extensionFromTurns 63 = .ok (.if_icmp .ge 14, 3) := by decide +kernel
theorem dX3_extensionFromTurns_66 : decode cX3_extensionFromTurns 66 = .ok (.aload_n 0, 1) := by decide +kernel
theorem dX3_extensionFromTurns_67 : decode cX3_extensionFromTurns 67 = .ok (.getfield 26, 3) := by decide +kernel
theorem dX3_extensionFromTurns_70 : decode cX3_extensionFromTurns 70 = .ok (.iload_n 3, 1) := by decide +kernel
theorem dX3_extensionFromTurns_71 : decode cX3_extensionFromTurns 71 = .ok (.invokevirtual 86, 3) := by decide +kernel
theorem dX3_extensionFromTurns_74 : decode cX3_extensionFromTurns 74 = .ok (.goto 7, 3) := by decide +kernel
theorem dX3_extensionFromTurns_77 : decode cX3_extensionFromTurns 77 = .ok (.aload_n 0, 1) := by decide +kernel
theorem dX3_extensionFromTurns_78 : decode cX3_extensionFromTurns 78 = .ok (.getfield 37, 3) := by decide +kernel
theorem dX3_extensionFromTurns_81 : decode cX3_extensionFromTurns 81 = .ok (.istore 4, 2) := by decide +kernel
theorem dX3_extensionFromTurns_83 : decode cX3_extensionFromTurns 83 = .ok (.iload_n 1, 1) := by decide +kernel
theorem dX3_extensionFromTurns_84 : decode cX3_extensionFromTurns 84 = .ok (.iload_n 2, 1) := by decide +kernel
theorem dX3_extensionFromTurns_85 : decode cX3_extensionFromTurns 85 = .ok (.aload_n 0, 1) := by decide +kernel
theorem dX3_extensionFromTurns_86 : decode cX3_extensionFromTurns 86 = .ok (.getfield 30, 3) := by decide +kernel
theorem dX3_extensionFromTurns_89 : decode cX3_extensionFromTurns 89 = .ok (.iload 4, 2) := by decide +kernel
theorem dX3_extensionFromTurns_91 : decode cX3_extensionFromTurns 91 = .ok (.aload_n 0, 1) := by decide +kernel
theorem dX3_extensionFromTurns_92 : decode cX3_extensionFromTurns 92 = .ok (.getfield 26, 3) := by decide +kernel
theorem dX3_extensionFromTurns_95 : decode cX3_extensionFromTurns 95 = .ok (.iload_n 3, 1) := by decide +kernel
theorem dX3_extensionFromTurns_96 : decode cX3_extensionFromTurns 96 = .ok (.iconst 1, 1) := by decide +kernel
theorem dX3_extensionFromTurns_97 : decode cX3_extensionFromTurns 97 = .ok (.isub, 1) := by decide +kernel
theorem dX3_extensionFromTurns_98 : decode cX3_extensionFromTurns 98 = .ok (.invokevirtual 86, 3) := by decide +kernel
theorem dX3_extensionFromTurns_101 : decode cX3_extensionFromTurns 101 = .ok (.isub, 1) := by decide +kernel
theorem dX3_extensionFromTurns_102 : decode cX3_extensionFromTurns 102 = .ok (.invokestatic 100, 3) := by decide +kernel
theorem dX3_extensionFromTurns_105 : decode cX3_extensionFromTurns 105 = .ok (.iconst 2, 1) := by decide +kernel
theorem dX3_extensionFromTurns_106 : decode cX3_extensionFromTurns 106 = .ok (.invokevirtual 93, 3) := by decide +kernel
theorem dX3_extensionFromTurns_109 : decode cX3_extensionFromTurns 109 = .ok (.imul, 1) := by decide +kernel
theorem dX3_extensionFromTurns_110 : decode cX3_extensionFromTurns 110 = .ok (.iadd, 1) := by decide +kernel
theorem dX3_extensionFromTurns_111 : decode cX3_extensionFromTurns 111 = .ok (.istore_n 1, 1) := by decide +kernel
theorem dX3_extensionFromTurns_112 : decode cX3_extensionFromTurns 112 = .ok (.iload_n 2, 1) := by decide +kernel
theorem dX3_extensionFromTurns_113 : decode cX3_extensionFromTurns 113 = .ok (.ineg, 1) := by decide +kernel
theorem dX3_extensionFromTurns_114 : decode cX3_extensionFromTurns 114 = .ok (.istore_n 2, 1) := by decide +kernel
theorem dX3_extensionFromTurns_115 : decode cX3_extensionFromTurns 115 = .ok (.iinc 3 1, 3) := by decide +kernel
theorem dX3_extensionFromTurns_118 : decode cX3_extensionFromTurns 118 = .ok (.goto (-74), 3) := by decide +kernel
theorem dX3_extensionFromTurns_121 : decode cX3_extensionFromTurns 121 = .ok (.iload_n 1, 1) := by decide +kernel
theorem dX3_extensionFromTurns_122 : decode cX3_extensionFromTurns 122 = .ok (.ireturn, 1) := by decide +kernel
theorem dX3_passHours_0 : decode cX3_passHours 0 = .ok (.iconst 0, 1) := by decide +kernel
theorem dX3_passHours_1 : decode cX3_passHours 1 = .ok (.istore_n 2, 1) := by decide +kernel
theorem dX3_passHours_2 : decode cX3_passHours 2 = .ok (.iload_n 2, 1) := by decide +kernel
theorem dX3_passHours_3 : decode cX3_passHours 3 = .ok (.iload_n 1, 1) := by decide +kernel
theorem dX3_passHours_4 : decode cX3_passHours 4 = .ok (.if_icmp .ge 64, 3) := by decide +kernel
theorem dX3_passHours_7 : decode cX3_passHours 7 = .ok (.aload_n 0, 1) := by decide +kernel
theorem dX3_passHours_8 : decode cX3_passHours 8 = .ok (.invokevirtual 66, 3) := by decide +kernel
theorem dX3_passHours_11 : decode cX3_passHours 11 = .ok (.istore_n 3, 1) := by decide +kernel
theorem dX3_passHours_12 : decode cX3_passHours 12 = .ok (.aload_n 0, 1) := by decide +kernel
theorem dX3_passHours_13 : decode cX3_passHours 13 = .ok (.getfield 37, 3) := by decide +kernel
theorem dX3_passHours_16 : decode cX3_passHours 16 = .ok (.aload_n 0, 1) := by decide +kernel
theorem dX3_passHours_17 : decode cX3_passHours 17 = .ok (.getfield 15, 3) := by decide +kernel
theorem dX3_passHours_20 : decode cX3_passHours 20 = .ok (.imul, 1) := by decide +kernel
theorem dX3_passHours_21 : decode cX3_passHours 21 = .ok (.bipush 100, 2) := by decide +kernel
theorem dX3_passHours_23 : decode cX3_passHours 23 = .ok (.idiv, 1) := by decide +kernel
theorem dX3_passHours_24 : decode cX3_passHours 24 = .ok (.aload_n 0, 1) := by decide +kernel
theorem dX3_passHours_25 : decode cX3_passHours 25 = .ok (.getfield 43, 3) := by decide +kernel
theorem dX3_passHours_28 : decode cX3_passHours 28 = .ok (.isub, 1) := by decide +kernel
theorem dX3_passHours_29 : decode cX3_passHours 29 = .ok (.istore 4, 2) := by decide +kernel
theorem dX3_passHours_31 : decode cX3_passHours 31 = .ok (.aload_n 0, 1) := by decide +kernel
theorem dX3_passHours_32 : decode cX3_passHours 32 = .ok (.dup, 1) := by decide +kernel
theorem dX3_passHours_33 : decode cX3_passHours 33 = .ok (.getfield 43, 3) := by decide +kernel
theorem dX3_passHours_36 : decode cX3_passHours 36 = .ok (.aload_n 0, 1) := by decide +kernel
theorem dX3_passHours_37 : decode cX3_passHours 37 = .ok (.getfield 18, 3) := by decide +kernel
theorem dX3_passHours_40 : decode cX3_passHours 40 = .ok (.ineg, 1) := by decide +kernel
theorem dX3_passHours_41 : decode cX3_passHours 41 = .ok (.aload_n 0, 1) := by decide +kernel
theorem dX3_passHours_42 : decode cX3_passHours 42 = .ok (.getfield 18, 3) := by decide +kernel
theorem dX3_passHours_45 : decode cX3_passHours 45 = .ok (.iload 4, 2) := by decide +kernel
theorem dX3_passHours_47 : decode cX3_passHours 47 = .ok (.invokestatic 105, 3) := by decide +kernel
theorem dX3_passHours_50 : decode cX3_passHours 50 = .ok (.invokestatic 108, 3) := by decide +kernel
theorem dX3_passHours_53 : decode cX3_passHours 53 = .ok (.iadd, 1) := by decide +kernel
theorem dX3_passHours_54 : decode cX3_passHours 54 = .ok (.putfield 43, 3) := by decide +kernel
theorem dX3_passHours_57 : decode cX3_passHours 57 = .ok (.aload_n 0, 1) := by decide +kernel
theorem dX3_passHours_58 : decode cX3_passHours 58 = .ok (.iload_n 3, 1) := by decide +kernel
theorem dX3_passHours_59 : decode cX3_passHours 59 = .ok (.invokevirtual 83, 3) := by decide +kernel
theorem dX3_passHours_62 : decode cX3_passHours 62 = .ok (.iinc 2 1, 3) := by decide +kernel
theorem dX3_passHours_65 : decode cX3_passHours 65 = .ok (.goto (-63), 3) := by decide +kernel
theorem dX3_passHours_68 : decode cX3_passHours 68 = .ok (.return_, 1) := by decide +kernel
theorem dX3_dragPointer_0 : decode cX3_dragPointer 0 = .ok (.aload_n 0, 1) := by decide +kernel
theorem dX3_dragPointer_1 : decode cX3_dragPointer 1 = .ok (.invokevirtual 66, 3) := by decide +kernel
theorem dX3_dragPointer_4 : decode cX3_dragPointer 4 = .ok (.istore_n 2, 1) := by decide +kernel
theorem dX3_dragPointer_5 : decode cX3_dragPointer 5 = .ok (.iload_n 2, 1) := by decide +kernel
theorem dX3_dragPointer_6 : decode cX3_dragPointer 6 = .ok (.iload_n 1, 1) := by decide +kernel
theorem dX3_dragPointer_7 : decode cX3_dragPointer 7 = .ok (.if_icmp .ne 4, 3) := by decide +kernel
theorem dX3_dragPointer_10 : decode cX3_dragPointer 10 = .ok (.return_, 1) := by decide +kernel
theorem dX3_dragPointer_11 : decode cX3_dragPointer 11 = .ok (.iload_n 2, 1) := by decide +kernel
theorem dX3_dragPointer_12 : decode cX3_dragPointer 12 = .ok (.aload_n 0, 1) := by decide +kernel
theorem dX3_dragPointer_13 : decode cX3_dragPointer 13 = .ok (.getfield 46, 3) := by decide +kernel
theorem dX3_dragPointer_16 : decode cX3_dragPointer 16 = .ok (.aload_n 0, 1) := by decide +kernel
theorem dX3_dragPointer_17 : decode cX3_dragPointer 17 = .ok (.getfield 9, 3) := by decide +kernel
theorem dX3_dragPointer_20 : decode cX3_dragPointer 20 = .ok (.iadd, 1) := by decide +kernel
theorem dX3_dragPointer_21 : decode cX3_dragPointer 21 = .ok (.if_icmp .le 16, 3) := by decide +kernel
theorem dX3_dragPointer_24 : decode cX3_dragPointer 24 = .ok (.aload_n 0, 1) := by decide +kernel
theorem dX3_dragPointer_25 : decode cX3_dragPointer 25 = .ok (.iload_n 2, 1) := by decide +kernel
theorem dX3_dragPointer_26 : decode cX3_dragPointer 26 = .ok (.aload_n 0, 1) := by decide +kernel
theorem dX3_dragPointer_27 : decode cX3_dragPointer 27 = .ok (.getfield 9, 3) := by decide +kernel
theorem dX3_dragPointer_30 : decode cX3_dragPointer 30 = .ok (.isub, 1) := by decide +kernel
theorem dX3_dragPointer_31 : decode cX3_dragPointer 31 = .ok (.putfield 46, 3) := by decide +kernel
theorem dX3_dragPointer_34 : decode cX3_dragPointer 34 = .ok (.goto 26, 3) := by decide +kernel
theorem dX3_dragPointer_37 : decode cX3_dragPointer 37 = .ok (.iload_n 2, 1) := by decide +kernel
theorem dX3_dragPointer_38 : decode cX3_dragPointer 38 = .ok (.aload_n 0, 1) := by decide +kernel
theorem dX3_dragPointer_39 : decode cX3_dragPointer 39 = .ok (.getfield 46, 3) := by decide +kernel
theorem dX3_dragPointer_42 : decode cX3_dragPointer 42 = .ok (.aload_n 0, 1) := by decide +kernel
theorem dX3_dragPointer_43 : decode cX3_dragPointer 43 = .ok (.getfield 9, 3) := by decide +kernel
theorem dX3_dragPointer_46 : decode cX3_dragPointer 46 = .ok (.isub, 1) := by decide +kernel
theorem dX3_dragPointer_47 : decode cX3_dragPointer 47 = .ok (.if_icmp .ge 13, 3) := by decide +kernel
theorem dX3_dragPointer_50 : decode cX3_dragPointer 50 = .ok (.aload_n 0, 1) := by decide +kernel
theorem dX3_dragPointer_51 : decode cX3_dragPointer 51 = .ok (.iload_n 2, 1) := by decide +kernel
theorem dX3_dragPointer_52 : decode cX3_dragPointer 52 = .ok (.aload_n 0, 1) := by decide +kernel
theorem dX3_dragPointer_53 : decode cX3_dragPointer 53 = .ok (.getfield 9, 3) := by decide +kernel
theorem dX3_dragPointer_56 : decode cX3_dragPointer 56 = .ok (.iadd, 1) := by decide +kernel
theorem dX3_dragPointer_57 : decode cX3_dragPointer 57 = .ok (.putfield 46, 3) := by decide +kernel
theorem dX3_dragPointer_60 : decode cX3_dragPointer 60 = .ok (.return_, 1) := by decide +kernel
theorem dX3_exchangeSetting_0 : decode cX3_exchangeSetting 0 = .ok (.iload_n 1, 1) := by decide +kernel
theorem dX3_exchangeSetting_1 : decode cX3_exchangeSetting 1 = .ok (.lookupswitch 51 #[(0, 27), (1, 39)], 27) := by decide +kernel
theorem dX3_exchangeSetting_28 : decode cX3_exchangeSetting 28 = .ok (.aload_n 0, 1) := by decide +kernel
theorem dX3_exchangeSetting_29 : decode cX3_exchangeSetting 29 = .ok (.getfield 9, 3) := by decide +kernel
theorem dX3_exchangeSetting_32 : decode cX3_exchangeSetting 32 = .ok (.istore_n 3, 1) := by decide +kernel
theorem dX3_exchangeSetting_33 : decode cX3_exchangeSetting 33 = .ok (.aload_n 0, 1) := by decide +kernel
theorem dX3_exchangeSetting_34 : decode cX3_exchangeSetting 34 = .ok (.iload_n 2, 1) := by decide +kernel
theorem dX3_exchangeSetting_35 : decode cX3_exchangeSetting 35 = .ok (.putfield 9, 3) := by decide +kernel
theorem dX3_exchangeSetting_38 : decode cX3_exchangeSetting 38 = .ok (.iload_n 3, 1) := by decide +kernel
theorem dX3_exchangeSetting_39 : decode cX3_exchangeSetting 39 = .ok (.ireturn, 1) := by decide +kernel
theorem dX3_exchangeSetting_40 : decode cX3_exchangeSetting 40 = .ok (.aload_n 0, 1) := by decide +kernel
theorem dX3_exchangeSetting_41 : decode cX3_exchangeSetting 41 = .ok (.getfield 15, 3) := by decide +kernel
theorem dX3_exchangeSetting_44 : decode cX3_exchangeSetting 44 = .ok (.istore_n 3, 1) := by decide +kernel
theorem dX3_exchangeSetting_45 : decode cX3_exchangeSetting 45 = .ok (.aload_n 0, 1) := by decide +kernel
theorem dX3_exchangeSetting_46 : decode cX3_exchangeSetting 46 = .ok (.iload_n 2, 1) := by decide +kernel
theorem dX3_exchangeSetting_47 : decode cX3_exchangeSetting 47 = .ok (.putfield 15, 3) := by decide +kernel
theorem dX3_exchangeSetting_50 : decode cX3_exchangeSetting 50 = .ok (.iload_n 3, 1) := by decide +kernel
theorem dX3_exchangeSetting_51 : decode cX3_exchangeSetting 51 = .ok (.ireturn, 1) := by decide +kernel
theorem dX3_exchangeSetting_52 : decode cX3_exchangeSetting 52 = .ok (.aload_n 0, 1) := by decide +kernel
theorem dX3_exchangeSetting_53 : decode cX3_exchangeSetting 53 = .ok (.getfield 18, 3) := by decide +kernel
theorem dX3_exchangeSetting_56 : decode cX3_exchangeSetting 56 = .ok (.istore_n 3, 1) := by decide +kernel
theorem dX3_exchangeSetting_57 : decode cX3_exchangeSetting 57 = .ok (.aload_n 0, 1) := by decide +kernel
theorem dX3_exchangeSetting_58 : decode cX3_exchangeSetting 58 = .ok (.iload_n 2, 1) := by decide +kernel
theorem dX3_exchangeSetting_59 : decode cX3_exchangeSetting 59 = .ok (.putfield 18, 3) := by decide +kernel
theorem dX3_exchangeSetting_62 : decode cX3_exchangeSetting 62 = .ok (.iload_n 3, 1) := by decide +kernel
theorem dX3_exchangeSetting_63 : decode cX3_exchangeSetting 63 = .ok (.ireturn, 1) := by decide +kernel
theorem dX4_init_0 : decode cX4_init 0 = .ok (.aload_n 0, 1) := by decide +kernel
theorem dX4_init_1 : decode cX4_init 1 = .ok (.invokespecial 3, 3) := by decide +kernel
theorem dX4_init_4 : decode cX4_init 4 = .ok (.aload_n 0, 1) := by decide +kernel
theorem dX4_init_5 : decode cX4_init 5 = .ok (.bipush 80, 2) := by decide +kernel
theorem dX4_init_7 : decode cX4_init 7 = .ok (.newarray .char, 2) := by decide +kernel
theorem dX4_init_9 : decode cX4_init 9 = .ok (.putfield 9, 3) := by decide +kernel
theorem dX4_init_12 : decode cX4_init 12 = .ok (.return_, 1) := by decide +kernel
theorem dX5_init_0 : decode cX5_init 0 = .ok (.aload_n 0, 1) := by decide +kernel
theorem dX5_init_1 : decode cX5_init 1 = .ok (.invokespecial 3, 3) := by decide +kernel
theorem dX5_init_4 : decode cX5_init 4 = .ok (.aload_n 0, 1) := by decide +kernel
theorem dX5_init_5 : decode cX5_init 5 = .ok (.new 9, 3) := by decide +kernel
theorem dX5_init_8 : decode cX5_init 8 = .ok (.dup, 1) := by decide +kernel
theorem dX5_init_9 : decode cX5_init 9 = .ok (.iconst 1, 1) := by decide +kernel
theorem dX5_init_10 : decode cX5_init 10 = .ok (.invokespecial 11, 3) := by decide +kernel
theorem dX5_init_13 : decode cX5_init 13 = .ok (.putfield 14, 3) := by decide +kernel
theorem dX5_init_16 : decode cX5_init 16 = .ok (.aload_n 0, 1) := by decide +kernel
theorem dX5_init_17 : decode cX5_init 17 = .ok (.new 20, 3) := by decide +kernel
theorem dX5_init_20 : decode cX5_init 20 = .ok (.dup, 1) := by decide +kernel
theorem dX5_init_21 : decode cX5_init 21 = .ok (.bipush 6, 2) := by decide +kernel
theorem dX5_init_23 : decode cX5_init 23 = .ok (.invokespecial 22, 3) := by decide +kernel
theorem dX5_init_26 : decode cX5_init 26 = .ok (.putfield 23, 3) := by decide +kernel
theorem dX5_init_29 : decode cX5_init 29 = .ok (.aload_n 0, 1) := by decide +kernel
theorem dX5_init_30 : decode cX5_init 30 = .ok (.bipush 6, 2) := by decide +kernel
theorem dX5_init_32 : decode cX5_init 32 = .ok (.newarray .int, 2) := by decide +kernel
theorem dX5_init_34 : decode cX5_init 34 = .ok (.putfield 27, 3) := by decide +kernel
theorem dX5_init_37 : decode cX5_init 37 = .ok (.aload_n 0, 1) := by decide +kernel
theorem dX5_init_38 : decode cX5_init 38 = .ok (.bipush 6, 2) := by decide +kernel
theorem dX5_init_40 : decode cX5_init 40 = .ok (.newarray .int, 2) := by decide +kernel
theorem dX5_init_42 : decode cX5_init 42 = .ok (.putfield 31, 3) := by decide +kernel
theorem dX5_init_45 : decode cX5_init 45 = .ok (.aload_n 0, 1) := by decide +kernel
theorem dX5_init_46 : decode cX5_init 46 = .ok (.bipush 6, 2) := by decide +kernel
theorem dX5_init_48 : decode cX5_init 48 = .ok (.newarray .int, 2) := by decide +kernel
theorem dX5_init_50 : decode cX5_init 50 = .ok (.putfield 34, 3) := by decide +kernel
theorem dX5_init_53 : decode cX5_init 53 = .ok (.return_, 1) := by decide +kernel
theorem dX6_init_0 : decode cX6_init 0 = .ok (.aload_n 0, 1) := by decide +kernel
theorem dX6_init_1 : decode cX6_init 1 = .ok (.invokespecial 3, 3) := by decide +kernel
theorem dX6_init_4 : decode cX6_init 4 = .ok (.aload_n 0, 1) := by decide +kernel
theorem dX6_init_5 : decode cX6_init 5 = .ok (.bipush 8, 2) := by decide +kernel
theorem dX6_init_7 : decode cX6_init 7 = .ok (.newarray .int, 2) := by decide +kernel
theorem dX6_init_9 : decode cX6_init 9 = .ok (.putfield 9, 3) := by decide +kernel
theorem dX6_init_12 : decode cX6_init 12 = .ok (.aload_n 0, 1) := by decide +kernel
theorem dX6_init_13 : decode cX6_init 13 = .ok (.bipush 8, 2) := by decide +kernel
theorem dX6_init_15 : decode cX6_init 15 = .ok (.newarray .int, 2) := by decide +kernel
theorem dX6_init_17 : decode cX6_init 17 = .ok (.putfield 15, 3) := by decide +kernel
theorem dX6_init_20 : decode cX6_init 20 = .ok (.aload_n 0, 1) := by decide +kernel
theorem dX6_init_21 : decode cX6_init 21 = .ok (.bipush 8, 2) := by decide +kernel
theorem dX6_init_23 : decode cX6_init 23 = .ok (.newarray .int, 2) := by decide +kernel
theorem dX6_init_25 : decode cX6_init 25 = .ok (.putfield 18, 3) := by decide +kernel
theorem dX6_init_28 : decode cX6_init 28 = .ok (.aload_n 0, 1) := by decide +kernel
theorem dX6_init_29 : decode cX6_init 29 = .ok (.bipush 8, 2) := by decide +kernel
theorem dX6_init_31 : decode cX6_init 31 = .ok (.newarray .int, 2) := by decide +kernel
theorem dX6_init_33 : decode cX6_init 33 = .ok (.putfield 21, 3) := by decide +kernel
theorem dX6_init_36 : decode cX6_init 36 = .ok (.aload_n 0, 1) := by decide +kernel
theorem dX6_init_37 : decode cX6_init 37 = .ok (.bipush 8, 2) := by decide +kernel
theorem dX6_init_39 : decode cX6_init 39 = .ok (.newarray .int, 2) := by decide +kernel
theorem dX6_init_41 : decode cX6_init 41 = .ok (.putfield 24, 3) := by decide +kernel
theorem dX6_init_44 : decode cX6_init 44 = .ok (.return_, 1) := by decide +kernel
theorem dX6_copyFrom_0 : decode cX6_copyFrom 0 = .ok (.aload_n 0, 1) := by decide +kernel
theorem dX6_copyFrom_1 : decode cX6_copyFrom 1 = .ok (.aload_n 1, 1) := by decide +kernel
theorem dX6_copyFrom_2 : decode cX6_copyFrom 2 = .ok (.getfield 27, 3) := by decide +kernel
theorem dX6_copyFrom_5 : decode cX6_copyFrom 5 = .ok (.putfield 27, 3) := by decide +kernel
theorem dX6_copyFrom_8 : decode cX6_copyFrom 8 = .ok (.aload_n 1, 1) := by decide +kernel
theorem dX6_copyFrom_9 : decode cX6_copyFrom 9 = .ok (.getfield 9, 3) := by decide +kernel
theorem dX6_copyFrom_12 : decode cX6_copyFrom 12 = .ok (.iconst 0, 1) := by decide +kernel
theorem dX6_copyFrom_13 : decode cX6_copyFrom 13 = .ok (.aload_n 0, 1) := by decide +kernel
theorem dX6_copyFrom_14 : decode cX6_copyFrom 14 = .ok (.getfield 9, 3) := by decide +kernel
theorem dX6_copyFrom_17 : decode cX6_copyFrom 17 = .ok (.iconst 0, 1) := by decide +kernel
theorem dX6_copyFrom_18 : decode cX6_copyFrom 18 = .ok (.bipush 8, 2) := by decide +kernel
theorem dX6_copyFrom_20 : decode cX6_copyFrom 20 = .ok (.invokestatic 31, 3) := by decide +kernel
theorem dX6_copyFrom_23 : decode cX6_copyFrom 23 = .ok (.aload_n 1, 1) := by decide +kernel
theorem dX6_copyFrom_24 : decode cX6_copyFrom 24 = .ok (.getfield 15, 3) := by decide +kernel
theorem dX6_copyFrom_27 : decode cX6_copyFrom 27 = .ok (.iconst 0, 1) := by decide +kernel
theorem dX6_copyFrom_28 : decode cX6_copyFrom 28 = .ok (.aload_n 0, 1) := by decide +kernel
theorem dX6_copyFrom_29 : decode cX6_copyFrom 29 = .ok (.getfield 15, 3) := by decide +kernel
theorem dX6_copyFrom_32 : decode cX6_copyFrom 32 = .ok (.iconst 0, 1) := by decide +kernel
theorem dX6_copyFrom_33 : decode cX6_copyFrom 33 = .ok (.bipush 8, 2) := by decide +kernel
theorem dX6_copyFrom_35 : decode cX6_copyFrom 35 = .ok (.invokestatic 31, 3) := by decide +kernel
theorem dX6_copyFrom_38 : decode cX6_copyFrom 38 = .ok (.aload_n 1, 1) := by decide +kernel
theorem dX6_copyFrom_39 : decode cX6_copyFrom 39 = .ok (.getfield 18, 3) := by decide +kernel
theorem dX6_copyFrom_42 : decode cX6_copyFrom 42 = .ok (.iconst 0, 1) := by decide +kernel
theorem dX6_copyFrom_43 : decode cX6_copyFrom 43 = .ok (.aload_n 0, 1) := by decide +kernel
theorem dX6_copyFrom_44 : decode cX6_copyFrom 44 = .ok (.getfield 18, 3) := by decide +kernel
theorem dX6_copyFrom_47 : decode cX6_copyFrom 47 = .ok (.iconst 0, 1) := by decide +kernel
theorem dX6_copyFrom_48 : decode cX6_copyFrom 48 = .ok (.bipush 8, 2) := by decide +kernel
theorem dX6_copyFrom_50 : decode cX6_copyFrom 50 = .ok (.invokestatic 31, 3) := by decide +kernel
theorem dX6_copyFrom_53 : decode cX6_copyFrom 53 = .ok (.aload_n 1, 1) := by decide +kernel
theorem dX6_copyFrom_54 : decode cX6_copyFrom 54 = .ok (.getfield 21, 3) := by decide +kernel
theorem dX6_copyFrom_57 : decode cX6_copyFrom 57 = .ok (.iconst 0, 1) := by decide +kernel
theorem dX6_copyFrom_58 : decode cX6_copyFrom 58 = .ok (.aload_n 0, 1) := by decide +kernel
theorem dX6_copyFrom_59 : decode cX6_copyFrom 59 = .ok (.getfield 21, 3) := by decide +kernel
theorem dX6_copyFrom_62 : decode cX6_copyFrom 62 = .ok (.iconst 0, 1) := by decide +kernel
theorem dX6_copyFrom_63 : decode cX6_copyFrom 63 = .ok (.bipush 8, 2) := by decide +kernel
theorem dX6_copyFrom_65 : decode cX6_copyFrom 65 = .ok (.invokestatic 31, 3) := by decide +kernel
theorem dX6_copyFrom_68 : decode cX6_copyFrom 68 = .ok (.aload_n 1, 1) := by decide +kernel
theorem dX6_copyFrom_69 : decode cX6_copyFrom 69 = .ok (.getfield 24, 3) := by decide +kernel
theorem dX6_copyFrom_72 : decode cX6_copyFrom 72 = .ok (.iconst 0, 1) := by decide +kernel
theorem dX6_copyFrom_73 : decode cX6_copyFrom 73 = .ok (.aload_n 0, 1) := by decide +kernel
theorem dX6_copyFrom_74 : decode cX6_copyFrom 74 = .ok (.getfield 24, 3) := by decide +kernel
theorem dX6_copyFrom_77 : decode cX6_copyFrom 77 = .ok (.iconst 0, 1) := by decide +kernel
theorem dX6_copyFrom_78 : decode cX6_copyFrom 78 = .ok (.bipush 8, 2) := by decide +kernel
theorem dX6_copyFrom_80 : decode cX6_copyFrom 80 = .ok (.invokestatic 31, 3) := by decide +kernel
theorem dX6_copyFrom_83 : decode cX6_copyFrom 83 = .ok (.return_, 1) := by decide +kernel
theorem dX6_numberOnPan_0 : decode cX6_numberOnPan 0 = .ok (.iconst 0, 1) := by decide +kernel
theorem dX6_numberOnPan_1 : decode cX6_numberOnPan 1 = .ok (.istore_n 1, 1) := by decide +kernel
theorem dX6_numberOnPan_2 : decode cX6_numberOnPan 2 = .ok (.iconst 0, 1) := by decide +kernel
theorem dX6_numberOnPan_3 : decode cX6_numberOnPan 3 = .ok (.istore_n 2, 1) := by decide +kernel
theorem dX6_numberOnPan_4 : decode cX6_numberOnPan 4 = .ok (.iload_n 2, 1) := by decide +kernel
theorem dX6_numberOnPan_5 : decode cX6_numberOnPan 5 = .ok (.aload_n 0, 1) := by decide +kernel
theorem dX6_numberOnPan_6 : decode cX6_numberOnPan 6 = .ok (.getfield 27, 3) := by decide +kernel
theorem dX6_numberOnPan_9 : decode cX6_numberOnPan 9 = .ok (.if_icmp .ge 18, 3) := by decide +kernel
theorem dX6_numberOnPan_12 : decode cX6_numberOnPan 12 = .ok (.iload_n 1, 1) := by decide +kernel
theorem dX6_numberOnPan_13 : decode cX6_numberOnPan 13 = .ok (.aload_n 0, 1) := by decide +kernel
theorem dX6_numberOnPan_14 : decode cX6_numberOnPan 14 = .ok (.getfield 24, 3) := by decide +kernel
theorem dX6_numberOnPan_17 : decode cX6_numberOnPan 17 = .ok (.iload_n 2, 1) := by decide +kernel
theorem dX6_numberOnPan_18 : decode cX6_numberOnPan 18 = .ok (.iaload, 1) := by decide +kernel
theorem dX6_numberOnPan_19 : decode cX6_numberOnPan 19 = .ok (.iadd, 1) := by decide +kernel
theorem dX6_numberOnPan_20 : decode cX6_numberOnPan 20 = .ok (.istore_n 1, 1) := by decide +kernel
theorem dX6_numberOnPan_21 : decode cX6_numberOnPan 21 = .ok (.iinc 2 1, 3) := by decide +kernel
theorem dX6_numberOnPan_24 : decode cX6_numberOnPan 24 = .ok (.goto (-20), 3) := by decide +kernel
theorem dX6_numberOnPan_27 : decode cX6_numberOnPan 27 = .ok (.iload_n 1, 1) := by decide +kernel
theorem dX6_numberOnPan_28 : decode cX6_numberOnPan 28 = .ok (.ireturn, 1) := by decide +kernel
theorem dX6_massOnPan_0 : decode cX6_massOnPan 0 = .ok (.iconst 0, 1) := by decide +kernel
theorem dX6_massOnPan_1 : decode cX6_massOnPan 1 = .ok (.istore_n 1, 1) := by decide +kernel
theorem dX6_massOnPan_2 : decode cX6_massOnPan 2 = .ok (.iconst 0, 1) := by decide +kernel
theorem dX6_massOnPan_3 : decode cX6_massOnPan 3 = .ok (.istore_n 2, 1) := by decide +kernel
theorem dX6_massOnPan_4 : decode cX6_massOnPan 4 = .ok (.iload_n 2, 1) := by decide +kernel
theorem dX6_massOnPan_5 : decode cX6_massOnPan 5 = .ok (.aload_n 0, 1) := by decide +kernel
theorem dX6_massOnPan_6 : decode cX6_massOnPan 6 = .ok (.getfield 27, 3) := by decide +kernel
theorem dX6_massOnPan_9 : decode cX6_massOnPan 9 = .ok (.if_icmp .ge 25, 3) := by decide +kernel
theorem dX6_massOnPan_12 : decode cX6_massOnPan 12 = .ok (.iload_n 1, 1) := by decide +kernel
theorem dX6_massOnPan_13 : decode cX6_massOnPan 13 = .ok (.aload_n 0, 1) := by decide +kernel
theorem dX6_massOnPan_14 : decode cX6_massOnPan 14 = .ok (.getfield 24, 3) := by decide +kernel
theorem dX6_massOnPan_17 : decode cX6_massOnPan 17 = .ok (.iload_n 2, 1) := by decide +kernel
theorem dX6_massOnPan_18 : decode cX6_massOnPan 18 = .ok (.iaload, 1) := by decide +kernel
theorem dX6_massOnPan_19 : decode cX6_massOnPan 19 = .ok (.aload_n 0, 1) := by decide +kernel
theorem dX6_massOnPan_20 : decode cX6_massOnPan 20 = .ok (.getfield 9, 3) := by decide +kernel
theorem dX6_massOnPan_23 : decode cX6_massOnPan 23 = .ok (.iload_n 2, 1) := by decide +kernel
theorem dX6_massOnPan_24 : decode cX6_massOnPan 24 = .ok (.iaload, 1) := by decide +kernel
theorem dX6_massOnPan_25 : decode cX6_massOnPan 25 = .ok (.imul, 1) := by decide +kernel
theorem dX6_massOnPan_26 : decode cX6_massOnPan 26 = .ok (.iadd, 1) := by decide +kernel
theorem dX6_massOnPan_27 : decode cX6_massOnPan 27 = .ok (.istore_n 1, 1) := by decide +kernel
theorem dX6_massOnPan_28 : decode cX6_massOnPan 28 = .ok (.iinc 2 1, 3) := by decide +kernel
theorem dX6_massOnPan_31 : decode cX6_massOnPan 31 = .ok (.goto (-27), 3) := by decide +kernel
theorem dX6_massOnPan_34 : decode cX6_massOnPan 34 = .ok (.iload_n 1, 1) := by decide +kernel
theorem dX6_massOnPan_35 : decode cX6_massOnPan 35 = .ok (.ireturn, 1) := by decide +kernel
theorem dX7_init_0 : decode cX7_init 0 = .ok (.aload_n 0, 1) := by decide +kernel
theorem dX7_init_1 : decode cX7_init 1 = .ok (.invokespecial 3, 3) := by decide +kernel
theorem dX7_init_4 : decode cX7_init 4 = .ok (.aload_n 0, 1) := by decide +kernel
theorem dX7_init_5 : decode cX7_init 5 = .ok (.new 9, 3) := by decide +kernel
theorem dX7_init_8 : decode cX7_init 8 = .ok (.dup, 1) := by decide +kernel
theorem dX7_init_9 : decode cX7_init 9 = .ok (.invokespecial 11, 3) := by decide +kernel
theorem dX7_init_12 : decode cX7_init 12 = .ok (.putfield 12, 3) := by decide +kernel
theorem dX7_init_15 : decode cX7_init 15 = .ok (.aload_n 0, 1) := by decide +kernel
theorem dX7_init_16 : decode cX7_init 16 = .ok (.new 16, 3) := by decide +kernel
theorem dX7_init_19 : decode cX7_init 19 = .ok (.dup, 1) := by decide +kernel
theorem dX7_init_20 : decode cX7_init 20 = .ok (.invokespecial 18, 3) := by decide +kernel
theorem dX7_init_23 : decode cX7_init 23 = .ok (.putfield 19, 3) := by decide +kernel
theorem dX7_init_26 : decode cX7_init 26 = .ok (.aload_n 0, 1) := by decide +kernel
theorem dX7_init_27 : decode cX7_init 27 = .ok (.new 23, 3) := by decide +kernel
theorem dX7_init_30 : decode cX7_init 30 = .ok (.dup, 1) := by decide +kernel
theorem dX7_init_31 : decode cX7_init 31 = .ok (.invokespecial 25, 3) := by decide +kernel
theorem dX7_init_34 : decode cX7_init 34 = .ok (.putfield 26, 3) := by decide +kernel
theorem dX7_init_37 : decode cX7_init 37 = .ok (.aload_n 0, 1) := by decide +kernel
theorem dX7_init_38 : decode cX7_init 38 = .ok (.new 30, 3) := by decide +kernel
theorem dX7_init_41 : decode cX7_init 41 = .ok (.dup, 1) := by decide +kernel
theorem dX7_init_42 : decode cX7_init 42 = .ok (.invokespecial 32, 3) := by decide +kernel
theorem dX7_init_45 : decode cX7_init 45 = .ok (.putfield 33, 3) := by decide +kernel
theorem dX7_init_48 : decode cX7_init 48 = .ok (.return_, 1) := by decide +kernel
theorem dX7_setLoad_0 : decode cX7_setLoad 0 = .ok (.iload_n 1, 1) := by decide +kernel
theorem dX7_setLoad_1 : decode cX7_setLoad 1 = .ok (.iconst 0, 1) := by decide +kernel
theorem dX7_setLoad_2 : decode cX7_setLoad 2 = .ok (.sipush 1000, 3) := by decide +kernel
theorem dX7_setLoad_5 : decode cX7_setLoad 5 = .ok (.invokestatic 37, 3) := by decide +kernel
theorem dX7_setLoad_8 : decode cX7_setLoad 8 = .ok (.ifCond .eq 6, 3) := by decide +kernel
theorem dX7_setLoad_11 : decode cX7_setLoad 11 = .ok (.ldc 41, 2) := by decide +kernel
theorem dX7_setLoad_13 : decode cX7_setLoad 13 = .ok (.ireturn, 1) := by decide +kernel
theorem dX7_setLoad_14 : decode cX7_setLoad 14 = .ok (.aload_n 0, 1) := by decide +kernel
theorem dX7_setLoad_15 : decode cX7_setLoad 15 = .ok (.getfield 12, 3) := by decide +kernel
theorem dX7_setLoad_18 : decode cX7_setLoad 18 = .ok (.iload_n 1, 1) := by decide +kernel
theorem dX7_setLoad_19 : decode cX7_setLoad 19 = .ok (.invokevirtual 42, 3) := by decide +kernel
theorem dX7_setLoad_22 : decode cX7_setLoad 22 = .ok (.invokestatic 46, 3) := by decide +kernel
theorem dX7_setLoad_25 : decode cX7_setLoad 25 = .ok (.istore_n 2, 1) := by decide +kernel
theorem dX7_setLoad_26 : decode cX7_setLoad 26 = .ok (.iload_n 2, 1) := by decide +kernel
theorem dX7_setLoad_27 : decode cX7_setLoad 27 = .ok (.ifCond .eq 5, 3) := by decide +kernel
theorem dX7_setLoad_30 : decode cX7_setLoad 30 = .ok (.iload_n 2, 1) := by decide +kernel
theorem dX7_setLoad_31 : decode cX7_setLoad 31 = .ok (.ireturn, 1) := by decide +kernel
theorem dX7_setLoad_32 : decode cX7_setLoad 32 = .ok (.aload_n 0, 1) := by decide +kernel
theorem dX7_setLoad_33 : decode cX7_setLoad 33 = .ok (.getfield 19, 3) := by decide +kernel
theorem dX7_setLoad_36 : decode cX7_setLoad 36 = .ok (.aload_n 0, 1) := by decide +kernel
theorem dX7_setLoad_37 : decode cX7_setLoad 37 = .ok (.getfield 12, 3) := by decide +kernel
theorem dX7_setLoad_40 : decode cX7_setLoad 40 = .ok (.invokevirtual 49, 3) := by decide +kernel
theorem dX7_setLoad_43 : decode cX7_setLoad 43 = .ok (.aload_n 0, 1) := by decide +kernel
theorem dX7_setLoad_44 : decode cX7_setLoad 44 = .ok (.getfield 12, 3) := by decide +kernel
theorem dX7_setLoad_47 : decode cX7_setLoad 47 = .ok (.getfield 53, 3) := by decide +kernel
theorem dX7_setLoad_50 : decode cX7_setLoad 50 = .ok (.iload_n 1, 1) := by decide +kernel
theorem dX7_setLoad_51 : decode cX7_setLoad 51 = .ok (.invokevirtual 57, 3) := by decide +kernel
theorem dX7_setLoad_54 : decode cX7_setLoad 54 = .ok (.aload_n 0, 1) := by decide +kernel
theorem dX7_setLoad_55 : decode cX7_setLoad 55 = .ok (.getfield 12, 3) := by decide +kernel
theorem dX7_setLoad_58 : decode cX7_setLoad 58 = .ok (.invokevirtual 63, 3) := by decide +kernel
theorem dX7_setLoad_61 : decode cX7_setLoad 61 = .ok (.ireturn, 1) := by decide +kernel
theorem dX7_hours_0 : decode cX7_hours 0 = .ok (.iload_n 1, 1) := by decide +kernel
theorem dX7_hours_1 : decode cX7_hours 1 = .ok (.iconst 1, 1) := by decide +kernel
theorem dX7_hours_2 : decode cX7_hours 2 = .ok (.sipush 200, 3) := by decide +kernel
theorem dX7_hours_5 : decode cX7_hours 5 = .ok (.invokestatic 37, 3) := by decide +kernel
theorem dX7_hours_8 : decode cX7_hours 8 = .ok (.ifCond .eq 6, 3) := by decide +kernel
theorem dX7_hours_11 : decode cX7_hours 11 = .ok (.ldc 41, 2) := by decide +kernel
theorem dX7_hours_13 : decode cX7_hours 13 = .ok (.ireturn, 1) := by decide +kernel
theorem dX7_hours_14 : decode cX7_hours 14 = .ok (.aload_n 0, 1) := by decide +kernel
theorem dX7_hours_15 : decode cX7_hours 15 = .ok (.getfield 19, 3) := by decide +kernel
theorem dX7_hours_18 : decode cX7_hours 18 = .ok (.aload_n 0, 1) := by decide +kernel
theorem dX7_hours_19 : decode cX7_hours 19 = .ok (.getfield 12, 3) := by decide +kernel
theorem dX7_hours_22 : decode cX7_hours 22 = .ok (.invokevirtual 49, 3) := by decide +kernel
theorem dX7_hours_25 : decode cX7_hours 25 = .ok (.aload_n 0, 1) := by decide +kernel
theorem dX7_hours_26 : decode cX7_hours 26 = .ok (.getfield 12, 3) := by decide +kernel
theorem dX7_hours_29 : decode cX7_hours 29 = .ok (.getfield 53, 3) := by decide +kernel
theorem dX7_hours_32 : decode cX7_hours 32 = .ok (.iload_n 1, 1) := by decide +kernel
theorem dX7_hours_33 : decode cX7_hours 33 = .ok (.invokevirtual 79, 3) := by decide +kernel
theorem dX7_hours_36 : decode cX7_hours 36 = .ok (.aload_n 0, 1) := by decide +kernel
theorem dX7_hours_37 : decode cX7_hours 37 = .ok (.getfield 12, 3) := by decide +kernel
theorem dX7_hours_40 : decode cX7_hours 40 = .ok (.getfield 53, 3) := by decide +kernel
theorem dX7_hours_43 : decode cX7_hours 43 = .ok (.getfield 82, 3) := by decide +kernel
theorem dX7_hours_46 : decode cX7_hours 46 = .ok (.ireturn, 1) := by decide +kernel
theorem dX7_zero_0 : decode cX7_zero 0 = .ok (.aload_n 0, 1) := by decide +kernel
theorem dX7_zero_1 : decode cX7_zero 1 = .ok (.getfield 12, 3) := by decide +kernel
theorem dX7_zero_4 : decode cX7_zero 4 = .ok (.invokevirtual 86, 3) := by decide +kernel
theorem dX7_zero_7 : decode cX7_zero 7 = .ok (.invokestatic 46, 3) := by decide +kernel
theorem dX7_zero_10 : decode cX7_zero 10 = .ok (.istore_n 1, 1) := by decide +kernel
theorem dX7_zero_11 : decode cX7_zero 11 = .ok (.iload_n 1, 1) := by decide +kernel
theorem dX7_zero_12 : decode cX7_zero 12 = .ok (.ifCond .eq 5, 3) := by decide +kernel
theorem dX7_zero_15 : decode cX7_zero 15 = .ok (.iload_n 1, 1) := by decide +kernel
theorem dX7_zero_16 : decode cX7_zero 16 = .ok (.ireturn, 1) := by decide +kernel
theorem dX7_zero_17 : decode cX7_zero 17 = .ok (.aload_n 0, 1) := by decide +kernel
theorem dX7_zero_18 : decode cX7_zero 18 = .ok (.getfield 19, 3) := by decide +kernel
theorem dX7_zero_21 : decode cX7_zero 21 = .ok (.aload_n 0, 1) := by decide +kernel
theorem dX7_zero_22 : decode cX7_zero 22 = .ok (.getfield 12, 3) := by decide +kernel
theorem dX7_zero_25 : decode cX7_zero 25 = .ok (.invokevirtual 49, 3) := by decide +kernel
theorem dX7_zero_28 : decode cX7_zero 28 = .ok (.aload_n 0, 1) := by decide +kernel
theorem dX7_zero_29 : decode cX7_zero 29 = .ok (.getfield 12, 3) := by decide +kernel
theorem dX7_zero_32 : decode cX7_zero 32 = .ok (.getfield 53, 3) := by decide +kernel
theorem dX7_zero_35 : decode cX7_zero 35 = .ok (.getfield 89, 3) := by decide +kernel
theorem dX7_zero_38 : decode cX7_zero 38 = .ok (.getfield 93, 3) := by decide +kernel
theorem dX7_zero_41 : decode cX7_zero 41 = .ok (.istore_n 2, 1) := by decide +kernel
theorem dX7_zero_42 : decode cX7_zero 42 = .ok (.aload_n 0, 1) := by decide +kernel
theorem dX7_zero_43 : decode cX7_zero 43 = .ok (.getfield 12, 3) := by decide +kernel
theorem dX7_zero_46 : decode cX7_zero 46 = .ok (.getfield 53, 3) := by decide +kernel
theorem dX7_zero_49 : decode cX7_zero 49 = .ok (.invokevirtual 98, 3) := by decide +kernel
theorem dX7_zero_52 : decode cX7_zero 52 = .ok (.iload_n 2, 1) := by decide +kernel
theorem dX7_zero_53 : decode cX7_zero 53 = .ok (.ireturn, 1) := by decide +kernel
theorem dX7_undo_0 : decode cX7_undo 0 = .ok (.aload_n 0, 1) := by decide +kernel
theorem dX7_undo_1 : decode cX7_undo 1 = .ok (.getfield 19, 3) := by decide +kernel
theorem dX7_undo_4 : decode cX7_undo 4 = .ok (.getfield 101, 3) := by decide +kernel
theorem dX7_undo_7 : decode cX7_undo 7 = .ok (.ifCond .ne 6, 3) := by decide +kernel
theorem dX7_undo_10 : decode cX7_undo 10 = .ok (.ldc 102, 2) := by decide +kernel
theorem dX7_undo_12 : decode cX7_undo 12 = .ok (.ireturn, 1) := by decide +kernel
theorem dX7_undo_13 : decode cX7_undo 13 = .ok (.aload_n 0, 1) := by decide +kernel
theorem dX7_undo_14 : decode cX7_undo 14 = .ok (.getfield 19, 3) := by decide +kernel
theorem dX7_undo_17 : decode cX7_undo 17 = .ok (.aload_n 0, 1) := by decide +kernel
theorem dX7_undo_18 : decode cX7_undo 18 = .ok (.getfield 12, 3) := by decide +kernel
theorem dX7_undo_21 : decode cX7_undo 21 = .ok (.invokevirtual 103, 3) := by decide +kernel
theorem dX7_undo_24 : decode cX7_undo 24 = .ok (.aload_n 0, 1) := by decide +kernel
theorem dX7_undo_25 : decode cX7_undo 25 = .ok (.getfield 19, 3) := by decide +kernel
theorem dX7_undo_28 : decode cX7_undo 28 = .ok (.getfield 101, 3) := by decide +kernel
theorem dX7_undo_31 : decode cX7_undo 31 = .ok (.ireturn, 1) := by decide +kernel
theorem dX7_count_0 : decode cX7_count 0 = .ok (.aload_n 0, 1) := by decide +kernel
theorem dX7_count_1 : decode cX7_count 1 = .ok (.getfield 12, 3) := by decide +kernel
theorem dX7_count_4 : decode cX7_count 4 = .ok (.getfield 53, 3) := by decide +kernel
theorem dX7_count_7 : decode cX7_count 7 = .ok (.astore_n 2, 1) := by decide +kernel
theorem dX7_count_8 : decode cX7_count 8 = .ok (.iload_n 1, 1) := by decide +kernel
theorem dX7_count_9 : decode cX7_count 9 = .ok (.tableswitch 192 0 15 #[79, 84, 89, 94, 99, 107, 115, 120, 131, 142, 150, 158, 166, 177, 182, 187], 79) := by decide +kernel
theorem dX7_count_88 : decode cX7_count 88 = .ok (.aload_n 2, 1) := by decide +kernel
theorem dX7_count_89 : decode cX7_count 89 = .ok (.getfield 106, 3) := by decide +kernel
theorem dX7_count_92 : decode cX7_count 92 = .ok (.ireturn, 1) := by decide +kernel
theorem dX7_count_93 : decode cX7_count 93 = .ok (.aload_n 2, 1) := by decide +kernel
theorem dX7_count_94 : decode cX7_count 94 = .ok (.getfield 109, 3) := by decide +kernel
theorem dX7_count_97 : decode cX7_count 97 = .ok (.ireturn, 1) := by decide +kernel
theorem dX7_count_98 : decode cX7_count 98 = .ok (.aload_n 2, 1) := by decide +kernel
theorem dX7_count_99 : decode cX7_count 99 = .ok (.getfield 82, 3) := by decide +kernel
theorem dX7_count_102 : decode cX7_count 102 = .ok (.ireturn, 1) := by decide +kernel
theorem dX7_count_103 : decode cX7_count 103 = .ok (.aload_n 2, 1) := by decide +kernel
theorem dX7_count_104 : decode cX7_count 104 = .ok (.getfield 112, 3) := by decide +kernel
theorem dX7_count_107 : decode cX7_count 107 = .ok (.ireturn, 1) := by decide +kernel
theorem dX7_count_108 : decode cX7_count 108 = .ok (.aload_n 0, 1) := by decide +kernel
theorem dX7_count_109 : decode cX7_count 109 = .ok (.getfield 12, 3) := by decide +kernel
theorem dX7_count_112 : decode cX7_count 112 = .ok (.invokevirtual 63, 3) := by decide +kernel
theorem dX7_count_115 : decode cX7_count 115 = .ok (.ireturn, 1) := by decide +kernel
theorem dX7_count_116 : decode cX7_count 116 = .ok (.aload_n 2, 1) := by decide +kernel
theorem dX7_count_117 : decode cX7_count 117 = .ok (.getfield 89, 3) := by decide +kernel
theorem dX7_count_120 : decode cX7_count 120 = .ok (.getfield 93, 3) := by decide +kernel
theorem dX7_count_123 : decode cX7_count 123 = .ok (.ireturn, 1) := by decide +kernel
theorem dX7_count_124 : decode cX7_count 124 = .ok (.aload_n 2, 1) := by decide +kernel
theorem dX7_count_125 : decode cX7_count 125 = .ok (.getfield 115, 3) := by decide +kernel
theorem dX7_count_128 : decode cX7_count 128 = .ok (.ireturn, 1) := by decide +kernel
theorem dX7_count_129 : decode cX7_count 129 = .ok (.aload_n 0, 1) := by decide +kernel
theorem dX7_count_130 : decode cX7_count 130 = .ok (.getfield 12, 3) := by decide +kernel
theorem dX7_count_133 : decode cX7_count 133 = .ok (.getfield 118, 3) := by decide +kernel
theorem dX7_count_136 : decode cX7_count 136 = .ok (.getfield 122, 3) := by decide +kernel
theorem dX7_count_139 : decode cX7_count 139 = .ok (.ireturn, 1) := by decide +kernel
theorem dX7_count_140 : decode cX7_count 140 = .ok (.aload_n 0, 1) := by decide +kernel
theorem dX7_count_141 : decode cX7_count 141 = .ok (.getfield 12, 3) := by decide +kernel
theorem dX7_count_144 : decode cX7_count 144 = .ok (.getfield 118, 3) := by decide +kernel
theorem dX7_count_147 : decode cX7_count 147 = .ok (.invokevirtual 125, 3) := by decide +kernel
theorem dX7_count_150 : decode cX7_count 150 = .ok (.ireturn, 1) := by decide +kernel
theorem dX7_count_151 : decode cX7_count 151 = .ok (.aload_n 0, 1) := by decide +kernel
theorem dX7_count_152 : decode cX7_count 152 = .ok (.getfield 19, 3) := by decide +kernel
theorem dX7_count_155 : decode cX7_count 155 = .ok (.getfield 101, 3) := by decide +kernel
theorem dX7_count_158 : decode cX7_count 158 = .ok (.ireturn, 1) := by decide +kernel
theorem dX7_count_159 : decode cX7_count 159 = .ok (.aload_n 0, 1) := by decide +kernel
theorem dX7_count_160 : decode cX7_count 160 = .ok (.getfield 26, 3) := by decide +kernel
theorem dX7_count_163 : decode cX7_count 163 = .ok (.getfield 128, 3) := by decide +kernel
theorem dX7_count_166 : decode cX7_count 166 = .ok (.ireturn, 1) := by decide +kernel
theorem dX7_count_167 : decode cX7_count 167 = .ok (.aload_n 2, 1) := by decide +kernel
theorem dX7_count_168 : decode cX7_count 168 = .ok (.getfield 131, 3) := by decide +kernel
theorem dX7_count_171 : decode cX7_count 171 = .ok (.getfield 93, 3) := by decide +kernel
theorem dX7_count_174 : decode cX7_count 174 = .ok (.ireturn, 1) := by decide +kernel
theorem dX7_count_175 : decode cX7_count 175 = .ok (.aload_n 0, 1) := by decide +kernel
theorem dX7_count_176 : decode cX7_count 176 = .ok (.getfield 12, 3) := by decide +kernel
theorem dX7_count_179 : decode cX7_count 179 = .ok (.getfield 134, 3) := by decide +kernel
theorem dX7_count_182 : decode cX7_count 182 = .ok (.getfield 93, 3) := by decide +kernel
theorem dX7_count_185 : decode cX7_count 185 = .ok (.ireturn, 1) := by decide +kernel
theorem dX7_count_186 : decode cX7_count 186 = .ok (.aload_n 2, 1) := by decide +kernel
theorem dX7_count_187 : decode cX7_count 187 = .ok (.getfield 137, 3) := by decide +kernel
theorem dX7_count_190 : decode cX7_count 190 = .ok (.ireturn, 1) := by decide +kernel
theorem dX7_count_191 : decode cX7_count 191 = .ok (.aload_n 2, 1) := by decide +kernel
theorem dX7_count_192 : decode cX7_count 192 = .ok (.getfield 140, 3) := by decide +kernel
theorem dX7_count_195 : decode cX7_count 195 = .ok (.ireturn, 1) := by decide +kernel
theorem dX7_count_196 : decode cX7_count 196 = .ok (.aload_n 2, 1) := by decide +kernel
theorem dX7_count_197 : decode cX7_count 197 = .ok (.getfield 143, 3) := by decide +kernel
theorem dX7_count_200 : decode cX7_count 200 = .ok (.ireturn, 1) := by decide +kernel
theorem dX7_count_201 : decode cX7_count 201 = .ok (.ldc 41, 2) := by decide +kernel
theorem dX7_count_203 : decode cX7_count 203 = .ok (.ireturn, 1) := by decide +kernel
theorem dX7_turning_0 : decode cX7_turning 0 = .ok (.iload_n 1, 1) := by decide +kernel
theorem dX7_turning_1 : decode cX7_turning 1 = .ok (.ifCond .lt 12, 3) := by decide +kernel
theorem dX7_turning_4 : decode cX7_turning 4 = .ok (.iload_n 2, 1) := by decide +kernel
theorem dX7_turning_5 : decode cX7_turning 5 = .ok (.iconst 0, 1) := by decide +kernel
theorem dX7_turning_6 : decode cX7_turning 6 = .ok (.iconst 1, 1) := by decide +kernel
theorem dX7_turning_7 : decode cX7_turning 7 = .ok (.invokestatic 37, 3) := by decide +kernel
theorem dX7_turning_10 : decode cX7_turning 10 = .ok (.ifCond .eq 6, 3) := by decide +kernel
theorem dX7_turning_13 : decode cX7_turning 13 = .ok (.ldc 41, 2) := by decide +kernel
theorem dX7_turning_15 : decode cX7_turning 15 = .ok (.ireturn, 1) := by decide +kernel
theorem dX7_turning_16 : decode cX7_turning 16 = .ok (.aload_n 0, 1) := by decide +kernel
theorem dX7_turning_17 : decode cX7_turning 17 = .ok (.getfield 12, 3) := by decide +kernel
theorem dX7_turning_20 : decode cX7_turning 20 = .ok (.getfield 53, 3) := by decide +kernel
theorem dX7_turning_23 : decode cX7_turning 23 = .ok (.getfield 89, 3) := by decide +kernel
theorem dX7_turning_26 : decode cX7_turning 26 = .ok (.iload_n 1, 1) := by decide +kernel
theorem dX7_turning_27 : decode cX7_turning 27 = .ok (.iload_n 2, 1) := by decide +kernel
theorem dX7_turning_28 : decode cX7_turning 28 = .ok (.invokevirtual 146, 3) := by decide +kernel
theorem dX7_turning_31 : decode cX7_turning 31 = .ok (.ireturn, 1) := by decide +kernel
theorem dX7_account_0 : decode cX7_account 0 = .ok (.aload_n 0, 1) := by decide +kernel
theorem dX7_account_1 : decode cX7_account 1 = .ok (.getfield 12, 3) := by decide +kernel
theorem dX7_account_4 : decode cX7_account 4 = .ok (.getfield 53, 3) := by decide +kernel
theorem dX7_account_7 : decode cX7_account 7 = .ok (.getfield 150, 3) := by decide +kernel
theorem dX7_account_10 : decode cX7_account 10 = .ok (.lreturn, 1) := by decide +kernel
theorem dX7_again_0 : decode cX7_again 0 = .ok (.aload_n 0, 1) := by decide +kernel
theorem dX7_again_1 : decode cX7_again 1 = .ok (.getfield 12, 3) := by decide +kernel
theorem dX7_again_4 : decode cX7_again 4 = .ok (.getfield 53, 3) := by decide +kernel
theorem dX7_again_7 : decode cX7_again 7 = .ok (.invokevirtual 154, 3) := by decide +kernel
theorem dX7_again_10 : decode cX7_again 10 = .ok (.ireturn, 1) := by decide +kernel
theorem dX7_setPoint_0 : decode cX7_setPoint 0 = .ok (.iload_n 1, 1) := by decide +kernel
theorem dX7_setPoint_1 : decode cX7_setPoint 1 = .ok (.iconst 1, 1) := by decide +kernel
theorem dX7_setPoint_2 : decode cX7_setPoint 2 = .ok (.sipush 1000, 3) := by decide +kernel
theorem dX7_setPoint_5 : decode cX7_setPoint 5 = .ok (.invokestatic 37, 3) := by decide +kernel
theorem dX7_setPoint_8 : decode cX7_setPoint 8 = .ok (.ifCond .ne 14, 3) := by decide +kernel
theorem dX7_setPoint_11 : decode cX7_setPoint 11 = .ok (.iload_n 2, 1) := by decide +kernel
theorem dX7_setPoint_12 : decode cX7_setPoint 12 = .ok (.iconst 1, 1) := by decide +kernel
theorem dX7_setPoint_13 : decode cX7_setPoint 13 = .ok (.sipush 20000, 3) := by decide +kernel
theorem dX7_setPoint_16 : decode cX7_setPoint 16 = .ok (.invokestatic 37, 3) := by decide +kernel
theorem dX7_setPoint_19 : decode cX7_setPoint 19 = .ok (.ifCond .eq 6, 3) := by decide +kernel
theorem dX7_setPoint_22 : decode cX7_setPoint 22 = .ok (.ldc 41, 2) := by decide +kernel
theorem dX7_setPoint_24 : decode cX7_setPoint 24 = .ok (.ireturn, 1) := by decide +kernel
theorem dX7_setPoint_25 : decode cX7_setPoint 25 = .ok (.aload_n 0, 1) := by decide +kernel
theorem dX7_setPoint_26 : decode cX7_setPoint 26 = .ok (.getfield 12, 3) := by decide +kernel
theorem dX7_setPoint_29 : decode cX7_setPoint 29 = .ok (.getfield 53, 3) := by decide +kernel
theorem dX7_setPoint_32 : decode cX7_setPoint 32 = .ok (.getfield 131, 3) := by decide +kernel
theorem dX7_setPoint_35 : decode cX7_setPoint 35 = .ok (.astore_n 3, 1) := by decide +kernel
theorem dX7_setPoint_36 : decode cX7_setPoint 36 = .ok (.aload_n 0, 1) := by decide +kernel
theorem dX7_setPoint_37 : decode cX7_setPoint 37 = .ok (.getfield 12, 3) := by decide +kernel
theorem dX7_setPoint_40 : decode cX7_setPoint 40 = .ok (.getfield 53, 3) := by decide +kernel
theorem dX7_setPoint_43 : decode cX7_setPoint 43 = .ok (.invokevirtual 157, 3) := by decide +kernel
theorem dX7_setPoint_46 : decode cX7_setPoint 46 = .ok (.ifCond .eq 12, 3) := by decide +kernel
theorem dX7_setPoint_49 : decode cX7_setPoint 49 = .ok (.aload_n 3, 1) := by decide +kernel
theorem dX7_setPoint_50 : decode cX7_setPoint 50 = .ok (.iload_n 1, 1) := by decide +kernel
theorem dX7_setPoint_51 : decode cX7_setPoint 51 = .ok (.iload_n 2, 1) := by decide +kernel
theorem dX7_setPoint_52 : decode cX7_setPoint 52 = .ok (.invokevirtual 161, 3) := by decide +kernel
theorem dX7_setPoint_55 : decode cX7_setPoint 55 = .ok (.ifCond .ne 6, 3) := by decide +kernel
theorem dX7_setPoint_58 : decode cX7_setPoint 58 = .ok (.ldc 102, 2) := by decide +kernel
theorem dX7_setPoint_60 : decode cX7_setPoint 60 = .ok (.ireturn, 1) := by decide +kernel
theorem dX7_setPoint_61 : decode cX7_setPoint 61 = .ok (.aload_n 3, 1) := by decide +kernel
theorem dX7_setPoint_62 : decode cX7_setPoint 62 = .ok (.iload_n 1, 1) := by decide +kernel
theorem dX7_setPoint_63 : decode cX7_setPoint 63 = .ok (.invokevirtual 165, 3) := by decide +kernel
