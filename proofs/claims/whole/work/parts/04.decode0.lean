theorem dX0_init_0 : decode cX0_init 0 = .ok (.aload_n 0, 1) := by decide +kernel
theorem dX0_init_1 : decode cX0_init 1 = .ok (.invokespecial 3, 3) := by decide +kernel
theorem dX0_init_4 : decode cX0_init 4 = .ok (.aload_n 0, 1) := by decide +kernel
theorem dX0_init_5 : decode cX0_init 5 = .ok (.bipush 24, 2) := by decide +kernel
theorem dX0_init_7 : decode cX0_init 7 = .ok (.newarray .int, 2) := by decide +kernel
theorem dX0_init_9 : decode cX0_init 9 = .ok (.putfield 11, 3) := by decide +kernel
theorem dX0_init_12 : decode cX0_init 12 = .ok (.aload_n 0, 1) := by decide +kernel
theorem dX0_init_13 : decode cX0_init 13 = .ok (.bipush 24, 2) := by decide +kernel
theorem dX0_init_15 : decode cX0_init 15 = .ok (.newarray .int, 2) := by decide +kernel
theorem dX0_init_17 : decode cX0_init 17 = .ok (.putfield 15, 3) := by decide +kernel
theorem dX0_init_20 : decode cX0_init 20 = .ok (.aload_n 0, 1) := by decide +kernel
theorem dX0_init_21 : decode cX0_init 21 = .ok (.bipush 24, 2) := by decide +kernel
theorem dX0_init_23 : decode cX0_init 23 = .ok (.newarray .int, 2) := by decide +kernel
theorem dX0_init_25 : decode cX0_init 25 = .ok (.putfield 18, 3) := by decide +kernel
theorem dX0_init_28 : decode cX0_init 28 = .ok (.return_, 1) := by decide +kernel
theorem dX0_change_0 : decode cX0_change 0 = .ok (.aload_n 0, 1) := by decide +kernel
theorem dX0_change_1 : decode cX0_change 1 = .ok (.iload_n 2, 1) := by decide +kernel
theorem dX0_change_2 : decode cX0_change 2 = .ok (.invokevirtual 21, 3) := by decide +kernel
theorem dX0_change_5 : decode cX0_change 5 = .ok (.ifCond .ne 6, 3) := by decide +kernel
theorem dX0_change_8 : decode cX0_change 8 = .ok (.ldc 27, 2) := by decide +kernel
theorem dX0_change_10 : decode cX0_change 10 = .ok (.ireturn, 1) := by decide +kernel
theorem dX0_change_11 : decode cX0_change 11 = .ok (.aload_n 0, 1) := by decide +kernel
theorem dX0_change_12 : decode cX0_change 12 = .ok (.getfield 28, 3) := by decide +kernel
theorem dX0_change_15 : decode cX0_change 15 = .ok (.astore 4, 2) := by decide +kernel
theorem dX0_change_17 : decode cX0_change 17 = .ok (.iload_n 1, 1) := by decide +kernel
theorem dX0_change_18 : decode cX0_change 18 = .ok (.ifCond .ne 12, 3) := by decide +kernel
theorem dX0_change_21 : decode cX0_change 21 = .ok (.aload_n 0, 1) := by decide +kernel
theorem dX0_change_22 : decode cX0_change 22 = .ok (.getfield 31, 3) := by decide +kernel
theorem dX0_change_25 : decode cX0_change 25 = .ok (.astore 4, 2) := by decide +kernel
theorem dX0_change_27 : decode cX0_change 27 = .ok (.goto 14, 3) := by decide +kernel
theorem dX0_change_30 : decode cX0_change 30 = .ok (.iload_n 1, 1) := by decide +kernel
theorem dX0_change_31 : decode cX0_change 31 = .ok (.iconst 1, 1) := by decide +kernel
theorem dX0_change_32 : decode cX0_change 32 = .ok (.if_icmp .ne 9, 3) := by decide +kernel
theorem dX0_change_35 : decode cX0_change 35 = .ok (.aload_n 0, 1) := by decide +kernel
theorem dX0_change_36 : decode cX0_change 36 = .ok (.getfield 34, 3) := by decide +kernel
theorem dX0_change_39 : decode cX0_change 39 = .ok (.astore 4, 2) := by decide +kernel
theorem dX0_change_41 : decode cX0_change 41 = .ok (.aload 4, 2) := by decide +kernel
theorem dX0_change_43 : decode cX0_change 43 = .ok (.iload_n 2, 1) := by decide +kernel
theorem dX0_change_44 : decode cX0_change 44 = .ok (.iaload, 1) := by decide +kernel
theorem dX0_change_45 : decode cX0_change 45 = .ok (.istore 5, 2) := by decide +kernel
theorem dX0_change_47 : decode cX0_change 47 = .ok (.aload 4, 2) := by decide +kernel
theorem dX0_change_49 : decode cX0_change 49 = .ok (.iload_n 2, 1) := by decide +kernel
theorem dX0_change_50 : decode cX0_change 50 = .ok (.iload_n 3, 1) := by decide +kernel
theorem dX0_change_51 : decode cX0_change 51 = .ok (.iastore, 1) := by decide +kernel
theorem dX0_change_52 : decode cX0_change 52 = .ok (.iload 5, 2) := by decide +kernel
theorem dX0_change_54 : decode cX0_change 54 = .ok (.ireturn, 1) := by decide +kernel
theorem dX0_kept_0 : decode cX0_kept 0 = .ok (.aload_n 0, 1) := by decide +kernel
theorem dX0_kept_1 : decode cX0_kept 1 = .ok (.getfield 37, 3) := by decide +kernel
theorem dX0_kept_4 : decode cX0_kept 4 = .ok (.ireturn, 1) := by decide +kernel
theorem dX0_clear_0 : decode cX0_clear 0 = .ok (.aload_n 0, 1) := by decide +kernel
theorem dX0_clear_1 : decode cX0_clear 1 = .ok (.iconst 0, 1) := by decide +kernel
theorem dX0_clear_2 : decode cX0_clear 2 = .ok (.putfield 37, 3) := by decide +kernel
theorem dX0_clear_5 : decode cX0_clear 5 = .ok (.return_, 1) := by decide +kernel
theorem dX0_keep_0 : decode cX0_keep 0 = .ok (.aload_n 0, 1) := by decide +kernel
theorem dX0_keep_1 : decode cX0_keep 1 = .ok (.getfield 37, 3) := by decide +kernel
theorem dX0_keep_4 : decode cX0_keep 4 = .ok (.bipush 24, 2) := by decide +kernel
theorem dX0_keep_6 : decode cX0_keep 6 = .ok (.if_icmp .lt 7, 3) := by decide +kernel
theorem dX0_keep_9 : decode cX0_keep 9 = .ok (.aload_n 0, 1) := by decide +kernel
theorem dX0_keep_10 : decode cX0_keep 10 = .ok (.invokevirtual 41, 3) := by decide +kernel
theorem dX0_keep_13 : decode cX0_keep 13 = .ok (.aload_n 0, 1) := by decide +kernel
theorem dX0_keep_14 : decode cX0_keep 14 = .ok (.getfield 11, 3) := by decide +kernel
theorem dX0_keep_17 : decode cX0_keep 17 = .ok (.aload_n 0, 1) := by decide +kernel
theorem dX0_keep_18 : decode cX0_keep 18 = .ok (.getfield 37, 3) := by decide +kernel
theorem dX0_keep_21 : decode cX0_keep 21 = .ok (.iload_n 1, 1) := by decide +kernel
theorem dX0_keep_22 : decode cX0_keep 22 = .ok (.iastore, 1) := by decide +kernel
theorem dX0_keep_23 : decode cX0_keep 23 = .ok (.aload_n 0, 1) := by decide +kernel
theorem dX0_keep_24 : decode cX0_keep 24 = .ok (.getfield 15, 3) := by decide +kernel
theorem dX0_keep_27 : decode cX0_keep 27 = .ok (.aload_n 0, 1) := by decide +kernel
theorem dX0_keep_28 : decode cX0_keep 28 = .ok (.getfield 37, 3) := by decide +kernel
theorem dX0_keep_31 : decode cX0_keep 31 = .ok (.iload_n 2, 1) := by decide +kernel
theorem dX0_keep_32 : decode cX0_keep 32 = .ok (.iastore, 1) := by decide +kernel
theorem dX0_keep_33 : decode cX0_keep 33 = .ok (.aload_n 0, 1) := by decide +kernel
theorem dX0_keep_34 : decode cX0_keep 34 = .ok (.getfield 18, 3) := by decide +kernel
theorem dX0_keep_37 : decode cX0_keep 37 = .ok (.aload_n 0, 1) := by decide +kernel
theorem dX0_keep_38 : decode cX0_keep 38 = .ok (.getfield 37, 3) := by decide +kernel
theorem dX0_keep_41 : decode cX0_keep 41 = .ok (.iload_n 3, 1) := by decide +kernel
theorem dX0_keep_42 : decode cX0_keep 42 = .ok (.iastore, 1) := by decide +kernel
theorem dX0_keep_43 : decode cX0_keep 43 = .ok (.aload_n 0, 1) := by decide +kernel
theorem dX0_keep_44 : decode cX0_keep 44 = .ok (.dup, 1) := by decide +kernel
theorem dX0_keep_45 : decode cX0_keep 45 = .ok (.getfield 37, 3) := by decide +kernel
theorem dX0_keep_48 : decode cX0_keep 48 = .ok (.iconst 1, 1) := by decide +kernel
theorem dX0_keep_49 : decode cX0_keep 49 = .ok (.iadd, 1) := by decide +kernel
theorem dX0_keep_50 : decode cX0_keep 50 = .ok (.putfield 37, 3) := by decide +kernel
theorem dX0_keep_53 : decode cX0_keep 53 = .ok (.return_, 1) := by decide +kernel
theorem dX0_forgetOldest_0 : decode cX0_forgetOldest 0 = .ok (.iconst 1, 1) := by decide +kernel
theorem dX0_forgetOldest_1 : decode cX0_forgetOldest 1 = .ok (.istore_n 1, 1) := by decide +kernel
theorem dX0_forgetOldest_2 : decode cX0_forgetOldest 2 = .ok (.iload_n 1, 1) := by decide +kernel
theorem dX0_forgetOldest_3 : decode cX0_forgetOldest 3 = .ok (.bipush 24, 2) := by decide +kernel
theorem dX0_forgetOldest_5 : decode cX0_forgetOldest 5 = .ok (.if_icmp .ge 51, 3) := by decide +kernel
theorem dX0_forgetOldest_8 : decode cX0_forgetOldest 8 = .ok (.aload_n 0, 1) := by decide +kernel
theorem dX0_forgetOldest_9 : decode cX0_forgetOldest 9 = .ok (.getfield 11, 3) := by decide +kernel
theorem dX0_forgetOldest_12 : decode cX0_forgetOldest 12 = .ok (.iload_n 1, 1) := by decide +kernel
theorem dX0_forgetOldest_13 : decode cX0_forgetOldest 13 = .ok (.iconst 1, 1) := by decide +kernel
theorem dX0_forgetOldest_14 : decode cX0_forgetOldest 14 = .ok (.isub, 1) := by decide +kernel
theorem dX0_forgetOldest_15 : decode cX0_forgetOldest 15 = .ok (.aload_n 0, 1) := by decide +kernel
theorem dX0_forgetOldest_16 : decode cX0_forgetOldest 16 = .ok (.getfield 11, 3) := by decide +kernel
theorem dX0_forgetOldest_19 : decode cX0_forgetOldest 19 = .ok (.iload_n 1, 1) := by decide +kernel
theorem dX0_forgetOldest_20 : decode cX0_forgetOldest 20 = .ok (.iaload, 1) := by decide +kernel
theorem dX0_forgetOldest_21 : decode cX0_forgetOldest 21 = .ok (.iastore, 1) := by decide +kernel
theorem dX0_forgetOldest_22 : decode cX0_forgetOldest 22 = .ok (.aload_n 0, 1) := by decide +kernel
theorem dX0_forgetOldest_23 : decode cX0_forgetOldest 23 = .ok (.getfield 15, 3) := by decide +kernel
theorem dX0_forgetOldest_26 : decode cX0_forgetOldest 26 = .ok (.iload_n 1, 1) := by decide +kernel
theorem dX0_forgetOldest_27 : decode cX0_forgetOldest 27 = .ok (.iconst 1, 1) := by decide +kernel
theorem dX0_forgetOldest_28 : decode cX0_forgetOldest 28 = .ok (.isub, 1) := by decide +kernel
theorem dX0_forgetOldest_29 : decode cX0_forgetOldest 29 = .ok (.aload_n 0, 1) := by decide +kernel
theorem dX0_forgetOldest_30 : decode cX0_forgetOldest 30 = .ok (.getfield 15, 3) := by decide +kernel
theorem dX0_forgetOldest_33 : decode cX0_forgetOldest 33 = .ok (.iload_n 1, 1) := by decide +kernel
theorem dX0_forgetOldest_34 : decode cX0_forgetOldest 34 = .ok (.iaload, 1) := by decide +kernel
theorem dX0_forgetOldest_35 : decode cX0_forgetOldest 35 = .ok (.iastore, 1) := by decide +kernel
theorem dX0_forgetOldest_36 : decode cX0_forgetOldest 36 = .ok (.aload_n 0, 1) := by decide +kernel
theorem dX0_forgetOldest_37 : decode cX0_forgetOldest 37 = .ok (.getfield 18, 3) := by decide +kernel
theorem dX0_forgetOldest_40 : decode cX0_forgetOldest 40 = .ok (.iload_n 1, 1) := by decide +kernel
theorem dX0_forgetOldest_41 : decode cX0_forgetOldest 41 = .ok (.iconst 1, 1) := by decide +kernel
theorem dX0_forgetOldest_42 : decode cX0_forgetOldest 42 = .ok (.isub, 1) := by decide +kernel
theorem dX0_forgetOldest_43 : decode cX0_forgetOldest 43 = .ok (.aload_n 0, 1) := by decide +kernel
theorem dX0_forgetOldest_44 : decode cX0_forgetOldest 44 = .ok (.getfield 18, 3) := by decide +kernel
theorem dX0_forgetOldest_47 : decode cX0_forgetOldest 47 = .ok (.iload_n 1, 1) := by decide +kernel
theorem dX0_forgetOldest_48 : decode cX0_forgetOldest 48 = .ok (.iaload, 1) := by decide +kernel
theorem dX0_forgetOldest_49 : decode cX0_forgetOldest 49 = .ok (.iastore, 1) := by decide +kernel
theorem dX0_forgetOldest_50 : decode cX0_forgetOldest 50 = .ok (.iinc 1 1, 3) := by decide +kernel
theorem dX0_forgetOldest_53 : decode cX0_forgetOldest 53 = .ok (.goto (-51), 3) := by decide +kernel
theorem dX0_forgetOldest_56 : decode cX0_forgetOldest 56 = .ok (.aload_n 0, 1) := by decide +kernel
theorem dX0_forgetOldest_57 : decode cX0_forgetOldest 57 = .ok (.bipush 23, 2) := by decide +kernel
theorem dX0_forgetOldest_59 : decode cX0_forgetOldest 59 = .ok (.putfield 37, 3) := by decide +kernel
theorem dX0_forgetOldest_62 : decode cX0_forgetOldest 62 = .ok (.return_, 1) := by decide +kernel
theorem dX0_undoLatest_0 : decode cX0_undoLatest 0 = .ok (.aload_n 0, 1) := by decide +kernel
theorem dX0_undoLatest_1 : decode cX0_undoLatest 1 = .ok (.getfield 37, 3) := by decide +kernel
theorem dX0_undoLatest_4 : decode cX0_undoLatest 4 = .ok (.ifCond .le 45, 3) := by decide +kernel
theorem dX0_undoLatest_7 : decode cX0_undoLatest 7 = .ok (.aload_n 0, 1) := by decide +kernel
theorem dX0_undoLatest_8 : decode cX0_undoLatest 8 = .ok (.dup, 1) := by decide +kernel
theorem dX0_undoLatest_9 : decode cX0_undoLatest 9 = .ok (.getfield 37, 3) := by decide +kernel
theorem dX0_undoLatest_12 : decode cX0_undoLatest 12 = .ok (.iconst 1, 1) := by decide +kernel
theorem dX0_undoLatest_13 : decode cX0_undoLatest 13 = .ok (.isub, 1) := by decide +kernel
theorem dX0_undoLatest_14 : decode cX0_undoLatest 14 = .ok (.putfield 37, 3) := by decide +kernel
theorem dX0_undoLatest_17 : decode cX0_undoLatest 17 = .ok (.aload_n 1, 1) := by decide +kernel
theorem dX0_undoLatest_18 : decode cX0_undoLatest 18 = .ok (.aload_n 0, 1) := by decide +kernel
theorem dX0_undoLatest_19 : decode cX0_undoLatest 19 = .ok (.getfield 11, 3) := by decide +kernel
theorem dX0_undoLatest_22 : decode cX0_undoLatest 22 = .ok (.aload_n 0, 1) := by decide +kernel
theorem dX0_undoLatest_23 : decode cX0_undoLatest 23 = .ok (.getfield 37, 3) := by decide +kernel
theorem dX0_undoLatest_26 : decode cX0_undoLatest 26 = .ok (.iaload, 1) := by decide +kernel
theorem dX0_undoLatest_27 : decode cX0_undoLatest 27 = .ok (.aload_n 0, 1) := by decide +kernel
theorem dX0_undoLatest_28 : decode cX0_undoLatest 28 = .ok (.getfield 15, 3) := by decide +kernel
theorem dX0_undoLatest_31 : decode cX0_undoLatest 31 = .ok (.aload_n 0, 1) := by decide +kernel
theorem dX0_undoLatest_32 : decode cX0_undoLatest 32 = .ok (.getfield 37, 3) := by decide +kernel
theorem dX0_undoLatest_35 : decode cX0_undoLatest 35 = .ok (.iaload, 1) := by decide +kernel
theorem dX0_undoLatest_36 : decode cX0_undoLatest 36 = .ok (.aload_n 0, 1) := by decide +kernel
theorem dX0_undoLatest_37 : decode cX0_undoLatest 37 = .ok (.getfield 18, 3) := by decide +kernel
theorem dX0_undoLatest_40 : decode cX0_undoLatest 40 = .ok (.aload_n 0, 1) := by decide +kernel
theorem dX0_undoLatest_41 : decode cX0_undoLatest 41 = .ok (.getfield 37, 3) := by decide +kernel
theorem dX0_undoLatest_44 : decode cX0_undoLatest 44 = .ok (.iaload, 1) := by decide +kernel
theorem dX0_undoLatest_45 : decode cX0_undoLatest 45 = .ok (.invokestatic 44, 3) := by decide +kernel
theorem dX0_undoLatest_48 : decode cX0_undoLatest 48 = .ok (.pop, 1) := by decide +kernel
theorem dX0_undoLatest_49 : decode cX0_undoLatest 49 = .ok (.return_, 1) := by decide +kernel
theorem dX1_init_0 : decode cX1_init 0 = .ok (.aload_n 0, 1) := by decide +kernel
theorem dX1_init_1 : decode cX1_init 1 = .ok (.invokespecial 3, 3) := by decide +kernel
theorem dX1_init_4 : decode cX1_init 4 = .ok (.aload_n 0, 1) := by decide +kernel
theorem dX1_init_5 : decode cX1_init 5 = .ok (.bipush 16, 2) := by decide +kernel
theorem dX1_init_7 : decode cX1_init 7 = .ok (.newarray .int, 2) := by decide +kernel
theorem dX1_init_9 : decode cX1_init 9 = .ok (.putfield 11, 3) := by decide +kernel
theorem dX1_init_12 : decode cX1_init 12 = .ok (.return_, 1) := by decide +kernel
theorem dX1_kindOf_0 : decode cX1_kindOf 0 = .ok (.aload_n 0, 1) := by decide +kernel
theorem dX1_kindOf_1 : decode cX1_kindOf 1 = .ok (.iload_n 1, 1) := by decide +kernel
theorem dX1_kindOf_2 : decode cX1_kindOf 2 = .ok (.invokevirtual 15, 3) := by decide +kernel
theorem dX1_kindOf_5 : decode cX1_kindOf 5 = .ok (.ifCond .ne 5, 3) := by decide +kernel
theorem dX1_kindOf_8 : decode cX1_kindOf 8 = .ok (.iconst 0, 1) := by decide +kernel
theorem dX1_kindOf_9 : decode cX1_kindOf 9 = .ok (.ireturn, 1) := by decide +kernel
theorem dX1_kindOf_10 : decode cX1_kindOf 10 = .ok (.aload_n 0, 1) := by decide +kernel
theorem dX1_kindOf_11 : decode cX1_kindOf 11 = .ok (.getfield 21, 3) := by decide +kernel
theorem dX1_kindOf_14 : decode cX1_kindOf 14 = .ok (.iload_n 1, 1) := by decide +kernel
theorem dX1_kindOf_15 : decode cX1_kindOf 15 = .ok (.iaload, 1) := by decide +kernel
theorem dX1_kindOf_16 : decode cX1_kindOf 16 = .ok (.ifCond .eq 5, 3) := by decide +kernel
theorem dX1_kindOf_19 : decode cX1_kindOf 19 = .ok (.iconst 5, 1) := by decide +kernel
theorem dX1_kindOf_20 : decode cX1_kindOf 20 = .ok (.ireturn, 1) := by decide +kernel
theorem dX1_kindOf_21 : decode cX1_kindOf 21 = .ok (.aload_n 0, 1) := by decide +kernel
theorem dX1_kindOf_22 : decode cX1_kindOf 22 = .ok (.getfield 24, 3) := by decide +kernel
theorem dX1_kindOf_25 : decode cX1_kindOf 25 = .ok (.iload_n 1, 1) := by decide +kernel
theorem dX1_kindOf_26 : decode cX1_kindOf 26 = .ok (.iaload, 1) := by decide +kernel
theorem dX1_kindOf_27 : decode cX1_kindOf 27 = .ok (.ifCond .ne 5, 3) := by decide +kernel
theorem dX1_kindOf_30 : decode cX1_kindOf 30 = .ok (.iconst 4, 1) := by decide +kernel
theorem dX1_kindOf_31 : decode cX1_kindOf 31 = .ok (.ireturn, 1) := by decide +kernel
theorem dX1_kindOf_32 : decode cX1_kindOf 32 = .ok (.aload_n 0, 1) := by decide +kernel
theorem dX1_kindOf_33 : decode cX1_kindOf 33 = .ok (.getfield 24, 3) := by decide +kernel
theorem dX1_kindOf_36 : decode cX1_kindOf 36 = .ok (.iload_n 1, 1) := by decide +kernel
theorem dX1_kindOf_37 : decode cX1_kindOf 37 = .ok (.iaload, 1) := by decide +kernel
theorem dX1_kindOf_38 : decode cX1_kindOf 38 = .ok (.bipush 10, 2) := by decide +kernel
theorem dX1_kindOf_40 : decode cX1_kindOf 40 = .ok (.if_icmp .lt 5, 3) := by decide +kernel
theorem dX1_kindOf_43 : decode cX1_kindOf 43 = .ok (.iconst 2, 1) := by decide +kernel
theorem dX1_kindOf_44 : decode cX1_kindOf 44 = .ok (.ireturn, 1) := by decide +kernel
theorem dX1_kindOf_45 : decode cX1_kindOf 45 = .ok (.aload_n 0, 1) := by decide +kernel
theorem dX1_kindOf_46 : decode cX1_kindOf 46 = .ok (.iload_n 1, 1) := by decide +kernel
theorem dX1_kindOf_47 : decode cX1_kindOf 47 = .ok (.iconst 1, 1) := by decide +kernel
theorem dX1_kindOf_48 : decode cX1_kindOf 48 = .ok (.iadd, 1) := by decide +kernel
theorem dX1_kindOf_49 : decode cX1_kindOf 49 = .ok (.invokevirtual 15, 3) := by decide +kernel
theorem dX1_kindOf_52 : decode cX1_kindOf 52 = .ok (.ifCond .eq 24, 3) := by decide +kernel
theorem dX1_kindOf_55 : decode cX1_kindOf 55 = .ok (.aload_n 0, 1) := by decide +kernel
theorem dX1_kindOf_56 : decode cX1_kindOf 56 = .ok (.getfield 27, 3) := by decide +kernel
theorem dX1_kindOf_59 : decode cX1_kindOf 59 = .ok (.iload_n 1, 1) := by decide +kernel
theorem dX1_kindOf_60 : decode cX1_kindOf 60 = .ok (.iconst 1, 1) := by decide +kernel
theorem dX1_kindOf_61 : decode cX1_kindOf 61 = .ok (.iadd, 1) := by decide +kernel
theorem dX1_kindOf_62 : decode cX1_kindOf 62 = .ok (.iaload, 1) := by decide +kernel
theorem dX1_kindOf_63 : decode cX1_kindOf 63 = .ok (.aload_n 0, 1) := by decide +kernel
theorem dX1_kindOf_64 : decode cX1_kindOf 64 = .ok (.getfield 27, 3) := by decide +kernel
theorem dX1_kindOf_67 : decode cX1_kindOf 67 = .ok (.iload_n 1, 1) := by decide +kernel
theorem dX1_kindOf_68 : decode cX1_kindOf 68 = .ok (.iaload, 1) := by decide +kernel
theorem dX1_kindOf_69 : decode cX1_kindOf 69 = .ok (.if_icmp .ne 7, 3) := by decide +kernel
theorem dX1_kindOf_72 : decode cX1_kindOf 72 = .ok (.iconst 1, 1) := by decide +kernel
theorem dX1_kindOf_73 : decode cX1_kindOf 73 = .ok (.goto 4, 3) := by decide +kernel
theorem dX1_kindOf_76 : decode cX1_kindOf 76 = .ok (.iconst 0, 1) := by decide +kernel
theorem dX1_kindOf_77 : decode cX1_kindOf 77 = .ok (.istore_n 2, 1) := by decide +kernel
theorem dX1_kindOf_78 : decode cX1_kindOf 78 = .ok (.iload_n 2, 1) := by decide +kernel
theorem dX1_kindOf_79 : decode cX1_kindOf 79 = .ok (.ifCond .eq 7, 3) := by decide +kernel
theorem dX1_kindOf_82 : decode cX1_kindOf 82 = .ok (.iconst 3, 1) := by decide +kernel
theorem dX1_kindOf_83 : decode cX1_kindOf 83 = .ok (.goto 4, 3) := by decide +kernel
theorem dX1_kindOf_86 : decode cX1_kindOf 86 = .ok (.iconst 1, 1) := by decide +kernel
theorem dX1_kindOf_87 : decode cX1_kindOf 87 = .ok (.ireturn, 1) := by decide +kernel
theorem dX1_isOf_0 : decode cX1_isOf 0 = .ok (.iload_n 1, 1) := by decide +kernel
theorem dX1_isOf_1 : decode cX1_isOf 1 = .ok (.ifCond .eq 8, 3) := by decide +kernel
theorem dX1_isOf_4 : decode cX1_isOf 4 = .ok (.iload_n 1, 1) := by decide +kernel
theorem dX1_isOf_5 : decode cX1_isOf 5 = .ok (.iload_n 0, 1) := by decide +kernel
theorem dX1_isOf_6 : decode cX1_isOf 6 = .ok (.if_icmp .ne 5, 3) := by decide +kernel
theorem dX1_isOf_9 : decode cX1_isOf 9 = .ok (.iconst 1, 1) := by decide +kernel
theorem dX1_isOf_10 : decode cX1_isOf 10 = .ok (.ireturn, 1) := by decide +kernel
theorem dX1_isOf_11 : decode cX1_isOf 11 = .ok (.iload_n 1, 1) := by decide +kernel
theorem dX1_isOf_12 : decode cX1_isOf 12 = .ok (.iconst 1, 1) := by decide +kernel
theorem dX1_isOf_13 : decode cX1_isOf 13 = .ok (.if_icmp .ne 19, 3) := by decide +kernel
theorem dX1_isOf_16 : decode cX1_isOf 16 = .ok (.iload_n 0, 1) := by decide +kernel
theorem dX1_isOf_17 : decode cX1_isOf 17 = .ok (.iconst 2, 1) := by decide +kernel
theorem dX1_isOf_18 : decode cX1_isOf 18 = .ok (.if_icmp .eq 8, 3) := by decide +kernel
theorem dX1_isOf_21 : decode cX1_isOf 21 = .ok (.iload_n 0, 1) := by decide +kernel
theorem dX1_isOf_22 : decode cX1_isOf 22 = .ok (.iconst 3, 1) := by decide +kernel
theorem dX1_isOf_23 : decode cX1_isOf 23 = .ok (.if_icmp .ne 7, 3) := by decide +kernel
theorem dX1_isOf_26 : decode cX1_isOf 26 = .ok (.iconst 1, 1) := by decide +kernel
theorem dX1_isOf_27 : decode cX1_isOf 27 = .ok (.goto 4, 3) := by decide +kernel
theorem dX1_isOf_30 : decode cX1_isOf 30 = .ok (.iconst 0, 1) := by decide +kernel
theorem dX1_isOf_31 : decode cX1_isOf 31 = .ok (.ireturn, 1) := by decide +kernel
theorem dX1_isOf_32 : decode cX1_isOf 32 = .ok (.iload_n 1, 1) := by decide +kernel
theorem dX1_isOf_33 : decode cX1_isOf 33 = .ok (.iconst 4, 1) := by decide +kernel
theorem dX1_isOf_34 : decode cX1_isOf 34 = .ok (.if_icmp .ne 12, 3) := by decide +kernel
theorem dX1_isOf_37 : decode cX1_isOf 37 = .ok (.iload_n 0, 1) := by decide +kernel
theorem dX1_isOf_38 : decode cX1_isOf 38 = .ok (.iconst 5, 1) := by decide +kernel
theorem dX1_isOf_39 : decode cX1_isOf 39 = .ok (.if_icmp .ne 7, 3) := by decide +kernel
theorem dX1_isOf_42 : decode cX1_isOf 42 = .ok (.iconst 1, 1) := by decide +kernel
theorem dX1_isOf_43 : decode cX1_isOf 43 = .ok (.goto 4, 3) := by decide +kernel
theorem dX1_isOf_46 : decode cX1_isOf 46 = .ok (.iconst 0, 1) := by decide +kernel
theorem dX1_isOf_47 : decode cX1_isOf 47 = .ok (.ireturn, 1) := by decide +kernel
theorem dX1_turnTo_0 : decode cX1_turnTo 0 = .ok (.aload_n 1, 1) := by decide +kernel
theorem dX1_turnTo_1 : decode cX1_turnTo 1 = .ok (.iload_n 2, 1) := by decide +kernel
theorem dX1_turnTo_2 : decode cX1_turnTo 2 = .ok (.invokevirtual 15, 3) := by decide +kernel
theorem dX1_turnTo_5 : decode cX1_turnTo 5 = .ok (.ifCond .eq 42, 3) := by decide +kernel
theorem dX1_turnTo_8 : decode cX1_turnTo 8 = .ok (.aload_n 0, 1) := by decide +kernel
theorem dX1_turnTo_9 : decode cX1_turnTo 9 = .ok (.iconst 0, 1) := by decide +kernel
theorem dX1_turnTo_10 : decode cX1_turnTo 10 = .ok (.putfield 30, 3) := by decide +kernel
theorem dX1_turnTo_13 : decode cX1_turnTo 13 = .ok (.aload_n 0, 1) := by decide +kernel
theorem dX1_turnTo_14 : decode cX1_turnTo 14 = .ok (.aload_n 1, 1) := by decide +kernel
theorem dX1_turnTo_15 : decode cX1_turnTo 15 = .ok (.iload_n 2, 1) := by decide +kernel
theorem dX1_turnTo_16 : decode cX1_turnTo 16 = .ok (.invokestatic 34, 3) := by decide +kernel
theorem dX1_turnTo_19 : decode cX1_turnTo 19 = .ok (.putfield 38, 3) := by decide +kernel
theorem dX1_turnTo_22 : decode cX1_turnTo 22 = .ok (.aload_n 0, 1) := by decide +kernel
theorem dX1_turnTo_23 : decode cX1_turnTo 23 = .ok (.iload_n 2, 1) := by decide +kernel
theorem dX1_turnTo_24 : decode cX1_turnTo 24 = .ok (.putfield 41, 3) := by decide +kernel
theorem dX1_turnTo_27 : decode cX1_turnTo 27 = .ok (.aload_n 0, 1) := by decide +kernel
theorem dX1_turnTo_28 : decode cX1_turnTo 28 = .ok (.aload_n 1, 1) := by decide +kernel
theorem dX1_turnTo_29 : decode cX1_turnTo 29 = .ok (.getfield 27, 3) := by decide +kernel
theorem dX1_turnTo_32 : decode cX1_turnTo 32 = .ok (.iload_n 2, 1) := by decide +kernel
theorem dX1_turnTo_33 : decode cX1_turnTo 33 = .ok (.iaload, 1) := by decide +kernel
theorem dX1_turnTo_34 : decode cX1_turnTo 34 = .ok (.putfield 44, 3) := by decide +kernel
theorem dX1_turnTo_37 : decode cX1_turnTo 37 = .ok (.aload_n 0, 1) := by decide +kernel
theorem dX1_turnTo_38 : decode cX1_turnTo 38 = .ok (.aload_n 1, 1) := by decide +kernel
theorem dX1_turnTo_39 : decode cX1_turnTo 39 = .ok (.getfield 24, 3) := by decide +kernel
theorem dX1_turnTo_42 : decode cX1_turnTo 42 = .ok (.iload_n 2, 1) := by decide +kernel
theorem dX1_turnTo_43 : decode cX1_turnTo 43 = .ok (.iaload, 1) := by decide +kernel
theorem dX1_turnTo_44 : decode cX1_turnTo 44 = .ok (.putfield 46, 3) := by decide +kernel
theorem dX1_turnTo_47 : decode cX1_turnTo 47 = .ok (.return_, 1) := by decide +kernel
theorem dX1_begun_0 : decode cX1_begun 0 = .ok (.iload_n 1, 1) := by decide +kernel
theorem dX1_begun_1 : decode cX1_begun 1 = .ok (.ifCond .lt 20, 3) := by decide +kernel
theorem dX1_begun_4 : decode cX1_begun 4 = .ok (.iload_n 1, 1) := by decide +kernel
theorem dX1_begun_5 : decode cX1_begun 5 = .ok (.aload_n 0, 1) := by decide +kernel
theorem dX1_begun_6 : decode cX1_begun 6 = .ok (.getfield 30, 3) := by decide +kernel
theorem dX1_begun_9 : decode cX1_begun 9 = .ok (.if_icmp .ge 12, 3) := by decide +kernel
theorem dX1_begun_12 : decode cX1_begun 12 = .ok (.aload_n 0, 1) := by decide +kernel
theorem dX1_begun_13 : decode cX1_begun 13 = .ok (.getfield 11, 3) := by decide +kernel
theorem dX1_begun_16 : decode cX1_begun 16 = .ok (.iload_n 1, 1) := by decide +kernel
theorem dX1_begun_17 : decode cX1_begun 17 = .ok (.iaload, 1) := by decide +kernel
theorem dX1_begun_18 : decode cX1_begun 18 = .ok (.goto 5, 3) := by decide +kernel
theorem dX1_begun_21 : decode cX1_begun 21 = .ok (.ldc 48, 2) := by decide +kernel
theorem dX1_begun_23 : decode cX1_begun 23 = .ok (.ireturn, 1) := by decide +kernel
theorem dX1_size_0 : decode cX1_size 0 = .ok (.aload_n 0, 1) := by decide +kernel
theorem dX1_size_1 : decode cX1_size 1 = .ok (.getfield 38, 3) := by decide +kernel
theorem dX1_size_4 : decode cX1_size 4 = .ok (.tableswitch 56 1 5 #[36, 41, 36, 46, 51], 36) := by decide +kernel
theorem dX1_size_40 : decode cX1_size 40 = .ok (.aload_n 0, 1) := by decide +kernel
theorem dX1_size_41 : decode cX1_size 41 = .ok (.invokevirtual 49, 3) := by decide +kernel
theorem dX1_size_44 : decode cX1_size 44 = .ok (.ireturn, 1) := by decide +kernel
theorem dX1_size_45 : decode cX1_size 45 = .ok (.aload_n 0, 1) := by decide +kernel
theorem dX1_size_46 : decode cX1_size 46 = .ok (.invokevirtual 53, 3) := by decide +kernel
theorem dX1_size_49 : decode cX1_size 49 = .ok (.ireturn, 1) := by decide +kernel
theorem dX1_size_50 : decode cX1_size 50 = .ok (.aload_n 0, 1) := by decide +kernel
theorem dX1_size_51 : decode cX1_size 51 = .ok (.invokevirtual 56, 3) := by decide +kernel
theorem dX1_size_54 : decode cX1_size 54 = .ok (.ireturn, 1) := by decide +kernel
theorem dX1_size_55 : decode cX1_size 55 = .ok (.aload_n 0, 1) := by decide +kernel
theorem dX1_size_56 : decode cX1_size 56 = .ok (.invokevirtual 59, 3) := by decide +kernel
theorem dX1_size_59 : decode cX1_size 59 = .ok (.ireturn, 1) := by decide +kernel
theorem dX1_size_60 : decode cX1_size 60 = .ok (.aload_n 0, 1) := by decide +kernel
theorem dX1_size_61 : decode cX1_size 61 = .ok (.invokevirtual 62, 3) := by decide +kernel
theorem dX1_size_64 : decode cX1_size 64 = .ok (.ireturn, 1) := by decide +kernel
theorem dX1_mark_0 : decode cX1_mark 0 = .ok (.aload_n 0, 1) := by decide +kernel
theorem dX1_mark_1 : decode cX1_mark 1 = .ok (.getfield 38, 3) := by decide +kernel
theorem dX1_mark_4 : decode cX1_mark 4 = .ok (.tableswitch 56 1 5 #[36, 51, 41, 46, 46], 36) := by decide +kernel
theorem dX1_mark_40 : decode cX1_mark 40 = .ok (.aload_n 0, 1) := by decide +kernel
theorem dX1_mark_41 : decode cX1_mark 41 = .ok (.invokevirtual 65, 3) := by decide +kernel
theorem dX1_mark_44 : decode cX1_mark 44 = .ok (.ireturn, 1) := by decide +kernel
theorem dX1_mark_45 : decode cX1_mark 45 = .ok (.aload_n 0, 1) := by decide +kernel
theorem dX1_mark_46 : decode cX1_mark 46 = .ok (.invokevirtual 68, 3) := by decide +kernel
theorem dX1_mark_49 : decode cX1_mark 49 = .ok (.ireturn, 1) := by decide +kernel
theorem dX1_mark_50 : decode cX1_mark 50 = .ok (.aload_n 0, 1) := by decide +kernel
theorem dX1_mark_51 : decode cX1_mark 51 = .ok (.invokevirtual 71, 3) := by decide +kernel
theorem dX1_mark_54 : decode cX1_mark 54 = .ok (.ireturn, 1) := by decide +kernel
theorem dX1_mark_55 : decode cX1_mark 55 = .ok (.aload_n 0, 1) := by decide +kernel
theorem dX1_mark_56 : decode cX1_mark 56 = .ok (.invokevirtual 74, 3) := by decide +kernel
theorem dX1_mark_59 : decode cX1_mark 59 = .ok (.ireturn, 1) := by decide +kernel
theorem dX1_mark_60 : decode cX1_mark 60 = .ok (.aload_n 0, 1) := by decide +kernel
theorem dX1_mark_61 : decode cX1_mark 61 = .ok (.invokevirtual 77, 3) := by decide +kernel
theorem dX1_mark_64 : decode cX1_mark 64 = .ok (.ireturn, 1) := by decide +kernel
theorem dX1_begin_0 : decode cX1_begin 0 = .ok (.aload_n 0, 1) := by decide +kernel
theorem dX1_begin_1 : decode cX1_begin 1 = .ok (.getfield 30, 3) := by decide +kernel
theorem dX1_begin_4 : decode cX1_begin 4 = .ok (.bipush 16, 2) := by decide +kernel
theorem dX1_begin_6 : decode cX1_begin 6 = .ok (.if_icmp .ge 23, 3) := by decide +kernel
theorem dX1_begin_9 : decode cX1_begin 9 = .ok (.aload_n 0, 1) := by decide +kernel
theorem dX1_begin_10 : decode cX1_begin 10 = .ok (.getfield 11, 3) := by decide +kernel
theorem dX1_begin_13 : decode cX1_begin 13 = .ok (.aload_n 0, 1) := by decide +kernel
theorem dX1_begin_14 : decode cX1_begin 14 = .ok (.getfield 30, 3) := by decide +kernel
theorem dX1_begin_17 : decode cX1_begin 17 = .ok (.iload_n 1, 1) := by decide +kernel
theorem dX1_begin_18 : decode cX1_begin 18 = .ok (.iastore, 1) := by decide +kernel
theorem dX1_begin_19 : decode cX1_begin 19 = .ok (.aload_n 0, 1) := by decide +kernel
theorem dX1_begin_20 : decode cX1_begin 20 = .ok (.dup, 1) := by decide +kernel
theorem dX1_begin_21 : decode cX1_begin 21 = .ok (.getfield 30, 3) := by decide +kernel
theorem dX1_begin_24 : decode cX1_begin 24 = .ok (.iconst 1, 1) := by decide +kernel
theorem dX1_begin_25 : decode cX1_begin 25 = .ok (.iadd, 1) := by decide +kernel
theorem dX1_begin_26 : decode cX1_begin 26 = .ok (.putfield 30, 3) := by decide +kernel
theorem dX1_begin_29 : decode cX1_begin 29 = .ok (.return_, 1) := by decide +kernel
theorem dX1_body10_0 : decode cX1_body10 0 = .ok (.aload_n 0, 1) := by decide +kernel
theorem dX1_body10_1 : decode cX1_body10 1 = .ok (.bipush 10, 2) := by decide +kernel
theorem dX1_body10_3 : decode cX1_body10 3 = .ok (.invokevirtual 80, 3) := by decide +kernel
theorem dX1_body10_6 : decode cX1_body10 6 = .ok (.aload_n 0, 1) := by decide +kernel
theorem dX1_body10_7 : decode cX1_body10 7 = .ok (.getfield 46, 3) := by decide +kernel
theorem dX1_body10_10 : decode cX1_body10 10 = .ok (.ireturn, 1) := by decide +kernel
theorem dX1_body11_0 : decode cX1_body11 0 = .ok (.aload_n 0, 1) := by decide +kernel
theorem dX1_body11_1 : decode cX1_body11 1 = .ok (.bipush 11, 2) := by decide +kernel
theorem dX1_body11_3 : decode cX1_body11 3 = .ok (.invokevirtual 80, 3) := by decide +kernel
theorem dX1_body11_6 : decode cX1_body11 6 = .ok (.aload_n 0, 1) := by decide +kernel
theorem dX1_body11_7 : decode cX1_body11 7 = .ok (.invokevirtual 62, 3) := by decide +kernel
theorem dX1_body11_10 : decode cX1_body11 10 = .ok (.istore_n 1, 1) := by decide +kernel
theorem dX1_body11_11 : decode cX1_body11 11 = .ok (.aload_n 0, 1) := by decide +kernel
theorem dX1_body11_12 : decode cX1_body11 12 = .ok (.getfield 38, 3) := by decide +kernel
theorem dX1_body11_15 : decode cX1_body11 15 = .ok (.iconst 2, 1) := by decide +kernel
theorem dX1_body11_16 : decode cX1_body11 16 = .ok (.if_icmp .ne 10, 3) := by decide +kernel
theorem dX1_body11_19 : decode cX1_body11 19 = .ok (.iload_n 1, 1) := by decide +kernel
theorem dX1_body11_20 : decode cX1_body11 20 = .ok (.aload_n 0, 1) := by decide +kernel
theorem dX1_body11_21 : decode cX1_body11 21 = .ok (.invokevirtual 74, 3) := by decide +kernel
theorem dX1_body11_24 : decode cX1_body11 24 = .ok (.iadd, 1) := by decide +kernel
theorem dX1_body11_25 : decode cX1_body11 25 = .ok (.ireturn, 1) := by decide +kernel
theorem dX1_body11_26 : decode cX1_body11 26 = .ok (.iload_n 1, 1) := by decide +kernel
theorem dX1_body11_27 : decode cX1_body11 27 = .ok (.aload_n 0, 1) := by decide +kernel
theorem dX1_body11_28 : decode cX1_body11 28 = .ok (.getfield 38, 3) := by decide +kernel
theorem dX1_body11_31 : decode cX1_body11 31 = .ok (.iconst 3, 1) := by decide +kernel
theorem dX1_body11_32 : decode cX1_body11 32 = .ok (.if_icmp .ne 10, 3) := by decide +kernel
theorem dX1_body11_35 : decode cX1_body11 35 = .ok (.aload_n 0, 1) := by decide +kernel
theorem dX1_body11_36 : decode cX1_body11 36 = .ok (.invokevirtual 68, 3) := by decide +kernel
theorem dX1_body11_39 : decode cX1_body11 39 = .ok (.goto 7, 3) := by decide +kernel
theorem dX1_body11_42 : decode cX1_body11 42 = .ok (.aload_n 0, 1) := by decide +kernel
theorem dX1_body11_43 : decode cX1_body11 43 = .ok (.invokevirtual 65, 3) := by decide +kernel
theorem dX1_body11_46 : decode cX1_body11 46 = .ok (.iadd, 1) := by decide +kernel
theorem dX1_body11_47 : decode cX1_body11 47 = .ok (.ireturn, 1) := by decide +kernel
theorem dX1_body12_0 : decode cX1_body12 0 = .ok (.aload_n 0, 1) := by decide +kernel
theorem dX1_body12_1 : decode cX1_body12 1 = .ok (.bipush 12, 2) := by decide +kernel
theorem dX1_body12_3 : decode cX1_body12 3 = .ok (.invokevirtual 80, 3) := by decide +kernel
theorem dX1_body12_6 : decode cX1_body12 6 = .ok (.iconst 0, 1) := by decide +kernel
theorem dX1_body12_7 : decode cX1_body12 7 = .ok (.aload_n 0, 1) := by decide +kernel
theorem dX1_body12_8 : decode cX1_body12 8 = .ok (.invokevirtual 49, 3) := by decide +kernel
theorem dX1_body12_11 : decode cX1_body12 11 = .ok (.isub, 1) := by decide +kernel
theorem dX1_body12_12 : decode cX1_body12 12 = .ok (.ireturn, 1) := by decide +kernel
theorem dX1_body13_0 : decode cX1_body13 0 = .ok (.aload_n 0, 1) := by decide +kernel
theorem dX1_body13_1 : decode cX1_body13 1 = .ok (.bipush 13, 2) := by decide +kernel
theorem dX1_body13_3 : decode cX1_body13 3 = .ok (.invokevirtual 80, 3) := by decide +kernel
theorem dX1_body13_6 : decode cX1_body13 6 = .ok (.aload_n 0, 1) := by decide +kernel
theorem dX1_body13_7 : decode cX1_body13 7 = .ok (.invokevirtual 62, 3) := by decide +kernel
theorem dX1_body13_10 : decode cX1_body13 10 = .ok (.bipush 100, 2) := by decide +kernel
theorem dX1_body13_12 : decode cX1_body13 12 = .ok (.isub, 1) := by decide +kernel
theorem dX1_body13_13 : decode cX1_body13 13 = .ok (.ireturn, 1) := by decide +kernel
theorem dX1_body14_0 : decode cX1_body14 0 = .ok (.aload_n 0, 1) := by decide +kernel
theorem dX1_body14_1 : decode cX1_body14 1 = .ok (.bipush 14, 2) := by decide +kernel
theorem dX1_body14_3 : decode cX1_body14 3 = .ok (.invokevirtual 80, 3) := by decide +kernel
theorem dX1_body14_6 : decode cX1_body14 6 = .ok (.iconst 2, 1) := by decide +kernel
theorem dX1_body14_7 : decode cX1_body14 7 = .ok (.aload_n 0, 1) := by decide +kernel
theorem dX1_body14_8 : decode cX1_body14 8 = .ok (.invokevirtual 56, 3) := by decide +kernel
theorem dX1_body14_11 : decode cX1_body14 11 = .ok (.imul, 1) := by decide +kernel
theorem dX1_body14_12 : decode cX1_body14 12 = .ok (.ireturn, 1) := by decide +kernel
theorem dX1_body20_0 : decode cX1_body20 0 = .ok (.aload_n 0, 1) := by decide +kernel
theorem dX1_body20_1 : decode cX1_body20 1 = .ok (.bipush 20, 2) := by decide +kernel
theorem dX1_body20_3 : decode cX1_body20 3 = .ok (.invokevirtual 80, 3) := by decide +kernel
theorem dX1_body20_6 : decode cX1_body20 6 = .ok (.aload_n 0, 1) := by decide +kernel
theorem dX1_body20_7 : decode cX1_body20 7 = .ok (.getfield 41, 3) := by decide +kernel
theorem dX1_body20_10 : decode cX1_body20 10 = .ok (.ireturn, 1) := by decide +kernel
theorem dX1_body21_0 : decode cX1_body21 0 = .ok (.aload_n 0, 1) := by decide +kernel
theorem dX1_body21_1 : decode cX1_body21 1 = .ok (.bipush 21, 2) := by decide +kernel
theorem dX1_body21_3 : decode cX1_body21 3 = .ok (.invokevirtual 80, 3) := by decide +kernel
theorem dX1_body21_6 : decode cX1_body21 6 = .ok (.aload_n 0, 1) := by decide +kernel
theorem dX1_body21_7 : decode cX1_body21 7 = .ok (.invokevirtual 77, 3) := by decide +kernel
theorem dX1_body21_10 : decode cX1_body21 10 = .ok (.bipush 10, 2) := by decide +kernel
theorem dX1_body21_12 : decode cX1_body21 12 = .ok (.aload_n 0, 1) := by decide +kernel
theorem dX1_body21_13 : decode cX1_body21 13 = .ok (.getfield 44, 3) := by decide +kernel
theorem dX1_body21_16 : decode cX1_body21 16 = .ok (.imul, 1) := by decide +kernel
theorem dX1_body21_17 : decode cX1_body21 17 = .ok (.iadd, 1) := by decide +kernel
theorem dX1_body21_18 : decode cX1_body21 18 = .ok (.ireturn, 1) := by decide +kernel
theorem dX1_body22_0 : decode cX1_body22 0 = .ok (.aload_n 0, 1) := by decide +kernel
theorem dX1_body22_1 : decode cX1_body22 1 = .ok (.bipush 22, 2) := by decide +kernel
theorem dX1_body22_3 : decode cX1_body22 3 = .ok (.invokevirtual 80, 3) := by decide +kernel
theorem dX1_body22_6 : decode cX1_body22 6 = .ok (.aload_n 0, 1) := by decide +kernel
theorem dX1_body22_7 : decode cX1_body22 7 = .ok (.invokevirtual 65, 3) := by decide +kernel
theorem dX1_body22_10 : decode cX1_body22 10 = .ok (.sipush 1000, 3) := by decide +kernel
theorem dX1_body22_13 : decode cX1_body22 13 = .ok (.isub, 1) := by decide +kernel
theorem dX1_body22_14 : decode cX1_body22 14 = .ok (.ireturn, 1) := by decide +kernel
theorem dX1_body23_0 : decode cX1_body23 0 = .ok (.aload_n 0, 1) := by decide +kernel
theorem dX1_body23_1 : decode cX1_body23 1 = .ok (.bipush 23, 2) := by decide +kernel
theorem dX1_body23_3 : decode cX1_body23 3 = .ok (.invokevirtual 80, 3) := by decide +kernel
theorem dX1_body23_6 : decode cX1_body23 6 = .ok (.aload_n 0, 1) := by decide +kernel
theorem dX1_body23_7 : decode cX1_body23 7 = .ok (.invokevirtual 77, 3) := by decide +kernel
theorem dX1_body23_10 : decode cX1_body23 10 = .ok (.istore_n 1, 1) := by decide +kernel
theorem dX1_body23_11 : decode cX1_body23 11 = .ok (.iload_n 1, 1) := by decide +kernel
theorem dX1_body23_12 : decode cX1_body23 12 = .ok (.aload_n 0, 1) := by decide +kernel
theorem dX1_body23_13 : decode cX1_body23 13 = .ok (.getfield 38, 3) := by decide +kernel
theorem dX1_body23_16 : decode cX1_body23 16 = .ok (.iconst 5, 1) := by decide +kernel
theorem dX1_body23_17 : decode cX1_body23 17 = .ok (.if_icmp .ne 10, 3) := by decide +kernel
theorem dX1_body23_20 : decode cX1_body23 20 = .ok (.aload_n 0, 1) := by decide +kernel
theorem dX1_body23_21 : decode cX1_body23 21 = .ok (.invokevirtual 59, 3) := by decide +kernel
theorem dX1_body23_24 : decode cX1_body23 24 = .ok (.goto 7, 3) := by decide +kernel
theorem dX1_body23_27 : decode cX1_body23 27 = .ok (.aload_n 0, 1) := by decide +kernel
theorem dX1_body23_28 : decode cX1_body23 28 = .ok (.invokevirtual 56, 3) := by decide +kernel
theorem dX1_body23_31 : decode cX1_body23 31 = .ok (.isub, 1) := by decide +kernel
theorem dX1_body23_32 : decode cX1_body23 32 = .ok (.ireturn, 1) := by decide +kernel
theorem dX1_body24_0 : decode cX1_body24 0 = .ok (.aload_n 0, 1) := by decide +kernel
theorem dX1_body24_1 : decode cX1_body24 1 = .ok (.bipush 24, 2) := by decide +kernel
theorem dX1_body24_3 : decode cX1_body24 3 = .ok (.invokevirtual 80, 3) := by decide +kernel
theorem dX1_body24_6 : decode cX1_body24 6 = .ok (.iconst 2, 1) := by decide +kernel
theorem dX1_body24_7 : decode cX1_body24 7 = .ok (.aload_n 0, 1) := by decide +kernel
theorem dX1_body24_8 : decode cX1_body24 8 = .ok (.invokevirtual 65, 3) := by decide +kernel
theorem dX1_body24_11 : decode cX1_body24 11 = .ok (.imul, 1) := by decide +kernel
theorem dX1_body24_12 : decode cX1_body24 12 = .ok (.ireturn, 1) := by decide +kernel
theorem dX2_init_0 : decode cX2_init 0 = .ok (.aload_n 0, 1) := by decide +kernel
theorem dX2_init_1 : decode cX2_init 1 = .ok (.invokespecial 3, 3) := by decide +kernel
theorem dX2_init_4 : decode cX2_init 4 = .ok (.aload_n 0, 1) := by decide +kernel
theorem dX2_init_5 : decode cX2_init 5 = .ok (.bipush 20, 2) := by decide +kernel
theorem dX2_init_7 : decode cX2_init 7 = .ok (.newarray .int, 2) := by decide +kernel
theorem dX2_init_9 : decode cX2_init 9 = .ok (.putfield 11, 3) := by decide +kernel
theorem dX2_init_12 : decode cX2_init 12 = .ok (.aload_n 0, 1) := by decide +kernel
theorem dX2_init_13 : decode cX2_init 13 = .ok (.bipush 20, 2) := by decide +kernel
theorem dX2_init_15 : decode cX2_init 15 = .ok (.newarray .int, 2) := by decide +kernel
theorem dX2_init_17 : decode cX2_init 17 = .ok (.putfield 17, 3) := by decide +kernel
theorem dX2_init_20 : decode cX2_init 20 = .ok (.aload_n 0, 1) := by decide +kernel
theorem dX2_init_21 : decode cX2_init 21 = .ok (.bipush 18, 2) := by decide +kernel
theorem dX2_init_23 : decode cX2_init 23 = .ok (.newarray .int, 2) := by decide +kernel
theorem dX2_init_25 : decode cX2_init 25 = .ok (.putfield 20, 3) := by decide +kernel
theorem dX2_init_28 : decode cX2_init 28 = .ok (.return_, 1) := by decide +kernel
theorem dX2_find_0 : decode cX2_find 0 = .ok (.aload_n 1, 1) := by decide +kernel
theorem dX2_find_1 : decode cX2_find 1 = .ok (.getfield 23, 3) := by decide +kernel
theorem dX2_find_4 : decode cX2_find 4 = .ok (.bipush 18, 2) := by decide +kernel
theorem dX2_find_6 : decode cX2_find 6 = .ok (.invokestatic 27, 3) := by decide +kernel
theorem dX2_find_9 : decode cX2_find 9 = .ok (.iconst 1, 1) := by decide +kernel
theorem dX2_find_10 : decode cX2_find 10 = .ok (.iadd, 1) := by decide +kernel
theorem dX2_find_11 : decode cX2_find 11 = .ok (.istore_n 3, 1) := by decide +kernel
theorem dX2_find_12 : decode cX2_find 12 = .ok (.aload_n 0, 1) := by decide +kernel
theorem dX2_find_13 : decode cX2_find 13 = .ok (.getfield 11, 3) := by decide +kernel
theorem dX2_find_16 : decode cX2_find 16 = .ok (.iload_n 3, 1) := by decide +kernel
theorem dX2_find_17 : decode cX2_find 17 = .ok (.iconst 0, 1) := by decide +kernel
theorem dX2_find_18 : decode cX2_find 18 = .ok (.iastore, 1) := by decide +kernel
theorem dX2_find_19 : decode cX2_find 19 = .ok (.aload_n 0, 1) := by decide +kernel
theorem dX2_find_20 : decode cX2_find 20 = .ok (.getfield 17, 3) := by decide +kernel
theorem dX2_find_23 : decode cX2_find 23 = .ok (.iload_n 3, 1) := by decide +kernel
theorem dX2_find_24 : decode cX2_find 24 = .ok (.iload_n 3, 1) := by decide +kernel
theorem dX2_find_25 : decode cX2_find 25 = .ok (.iastore, 1) := by decide +kernel
theorem dX2_find_26 : decode cX2_find 26 = .ok (.iload_n 3, 1) := by decide +kernel
theorem dX2_find_27 : decode cX2_find 27 = .ok (.iconst 1, 1) := by decide +kernel
theorem dX2_find_28 : decode cX2_find 28 = .ok (.isub, 1) := by decide +kernel
theorem dX2_find_29 : decode cX2_find 29 = .ok (.istore 4, 2) := by decide +kernel
theorem dX2_find_31 : decode cX2_find 31 = .ok (.iload 4, 2) := by decide +kernel
theorem dX2_find_33 : decode cX2_find 33 = .ok (.ifCond .le 47, 3) := by decide +kernel
theorem dX2_find_36 : decode cX2_find 36 = .ok (.aload_n 0, 1) := by decide +kernel
theorem dX2_find_37 : decode cX2_find 37 = .ok (.iload 4, 2) := by decide +kernel
theorem dX2_find_39 : decode cX2_find 39 = .ok (.iload_n 3, 1) := by decide +kernel
theorem dX2_find_40 : decode cX2_find 40 = .ok (.iload 4, 2) := by decide +kernel
theorem dX2_find_42 : decode cX2_find 42 = .ok (.iload_n 2, 1) := by decide +kernel
theorem dX2_find_43 : decode cX2_find 43 = .ok (.iadd, 1) := by decide +kernel
theorem dX2_find_44 : decode cX2_find 44 = .ok (.invokestatic 27, 3) := by decide +kernel
theorem dX2_find_47 : decode cX2_find 47 = .ok (.invokevirtual 33, 3) := by decide +kernel
theorem dX2_find_50 : decode cX2_find 50 = .ok (.aload_n 0, 1) := by decide +kernel
theorem dX2_find_51 : decode cX2_find 51 = .ok (.iload 4, 2) := by decide +kernel
theorem dX2_find_53 : decode cX2_find 53 = .ok (.aload_n 1, 1) := by decide +kernel
theorem dX2_find_54 : decode cX2_find 54 = .ok (.getfield 37, 3) := by decide +kernel
theorem dX2_find_57 : decode cX2_find 57 = .ok (.iload 4, 2) := by decide +kernel
theorem dX2_find_59 : decode cX2_find 59 = .ok (.iconst 1, 1) := by decide +kernel
theorem dX2_find_60 : decode cX2_find 60 = .ok (.isub, 1) := by decide +kernel
theorem dX2_find_61 : decode cX2_find 61 = .ok (.iaload, 1) := by decide +kernel
theorem dX2_find_62 : decode cX2_find 62 = .ok (.aload_n 1, 1) := by decide +kernel
theorem dX2_find_63 : decode cX2_find 63 = .ok (.getfield 40, 3) := by decide +kernel
theorem dX2_find_66 : decode cX2_find 66 = .ok (.iload 4, 2) := by decide +kernel
theorem dX2_find_68 : decode cX2_find 68 = .ok (.iconst 1, 1) := by decide +kernel
theorem dX2_find_69 : decode cX2_find 69 = .ok (.isub, 1) := by decide +kernel
theorem dX2_find_70 : decode cX2_find 70 = .ok (.iaload, 1) := by decide +kernel
theorem dX2_find_71 : decode cX2_find 71 = .ok (.invokevirtual 43, 3) := by decide +kernel
theorem dX2_find_74 : decode cX2_find 74 = .ok (.iinc 4 (-1), 3) := by decide +kernel
theorem dX2_find_77 : decode cX2_find 77 = .ok (.goto (-46), 3) := by decide +kernel
theorem dX2_find_80 : decode cX2_find 80 = .ok (.aload_n 0, 1) := by decide +kernel
theorem dX2_find_81 : decode cX2_find 81 = .ok (.iconst 0, 1) := by decide +kernel
theorem dX2_find_82 : decode cX2_find 82 = .ok (.iload_n 3, 1) := by decide +kernel
theorem dX2_find_83 : decode cX2_find 83 = .ok (.iload_n 2, 1) := by decide +kernel
theorem dX2_find_84 : decode cX2_find 84 = .ok (.invokestatic 27, 3) := by decide +kernel
theorem dX2_find_87 : decode cX2_find 87 = .ok (.invokevirtual 33, 3) := by decide +kernel
theorem dX2_find_90 : decode cX2_find 90 = .ok (.aload_n 0, 1) := by decide +kernel
theorem dX2_find_91 : decode cX2_find 91 = .ok (.iload_n 3, 1) := by decide +kernel
theorem dX2_find_92 : decode cX2_find 92 = .ok (.invokevirtual 47, 3) := by decide +kernel
theorem dX2_find_95 : decode cX2_find 95 = .ok (.return_, 1) := by decide +kernel
theorem dX2_lookUp_0 : decode cX2_lookUp 0 = .ok (.ldc 51, 2) := by decide +kernel
theorem dX2_lookUp_2 : decode cX2_lookUp 2 = .ok (.istore_n 3, 1) := by decide +kernel
theorem dX2_lookUp_3 : decode cX2_lookUp 3 = .ok (.iload_n 2, 1) := by decide +kernel
theorem dX2_lookUp_4 : decode cX2_lookUp 4 = .ok (.istore 4, 2) := by decide +kernel
theorem dX2_lookUp_6 : decode cX2_lookUp 6 = .ok (.iload_n 1, 1) := by decide +kernel
theorem dX2_lookUp_7 : decode cX2_lookUp 7 = .ok (.iconst 1, 1) := by decide +kernel
theorem dX2_lookUp_8 : decode cX2_lookUp 8 = .ok (.iadd, 1) := by decide +kernel
theorem dX2_lookUp_9 : decode cX2_lookUp 9 = .ok (.istore 5, 2) := by decide +kernel
theorem dX2_lookUp_11 : decode cX2_lookUp 11 = .ok (.iload 5, 2) := by decide +kernel
theorem dX2_lookUp_13 : decode cX2_lookUp 13 = .ok (.iload_n 2, 1) := by decide +kernel
theorem dX2_lookUp_14 : decode cX2_lookUp 14 = .ok (.if_icmp .gt 32, 3) := by decide +kernel
theorem dX2_lookUp_17 : decode cX2_lookUp 17 = .ok (.aload_n 0, 1) := by decide +kernel
theorem dX2_lookUp_18 : decode cX2_lookUp 18 = .ok (.getfield 11, 3) := by decide +kernel
theorem dX2_lookUp_21 : decode cX2_lookUp 21 = .ok (.iload 5, 2) := by decide +kernel
theorem dX2_lookUp_23 : decode cX2_lookUp 23 = .ok (.iaload, 1) := by decide +kernel
theorem dX2_lookUp_24 : decode cX2_lookUp 24 = .ok (.iload_n 3, 1) := by decide +kernel
theorem dX2_lookUp_25 : decode cX2_lookUp 25 = .ok (.if_icmp .ge 15, 3) := by decide +kernel
theorem dX2_lookUp_28 : decode cX2_lookUp 28 = .ok (.aload_n 0, 1) := by decide +kernel
theorem dX2_lookUp_29 : decode cX2_lookUp 29 = .ok (.getfield 11, 3) := by decide +kernel
theorem dX2_lookUp_32 : decode cX2_lookUp 32 = .ok (.iload 5, 2) := by decide +kernel
theorem dX2_lookUp_34 : decode cX2_lookUp 34 = .ok (.iaload, 1) := by decide +kernel
theorem dX2_lookUp_35 : decode cX2_lookUp 35 = .ok (.istore_n 3, 1) := by decide +kernel
theorem dX2_lookUp_36 : decode cX2_lookUp 36 = .ok (.iload 5, 2) := by decide +kernel
theorem dX2_lookUp_38 : decode cX2_lookUp 38 = .ok (.istore 4, 2) := by decide +kernel
theorem dX2_lookUp_40 : decode cX2_lookUp 40 = .ok (.iinc 5 1, 3) := by decide +kernel
theorem dX2_lookUp_43 : decode cX2_lookUp 43 = .ok (.goto (-32), 3) := by decide +kernel
theorem dX2_lookUp_46 : decode cX2_lookUp 46 = .ok (.aload_n 0, 1) := by decide +kernel
theorem dX2_lookUp_47 : decode cX2_lookUp 47 = .ok (.getfield 11, 3) := by decide +kernel
theorem dX2_lookUp_50 : decode cX2_lookUp 50 = .ok (.iload_n 1, 1) := by decide +kernel
theorem dX2_lookUp_51 : decode cX2_lookUp 51 = .ok (.iload_n 3, 1) := by decide +kernel
theorem dX2_lookUp_52 : decode cX2_lookUp 52 = .ok (.iastore, 1) := by decide +kernel
theorem dX2_lookUp_53 : decode cX2_lookUp 53 = .ok (.aload_n 0, 1) := by decide +kernel
theorem dX2_lookUp_54 : decode cX2_lookUp 54 = .ok (.getfield 17, 3) := by decide +kernel
theorem dX2_lookUp_57 : decode cX2_lookUp 57 = .ok (.iload_n 1, 1) := by decide +kernel
theorem dX2_lookUp_58 : decode cX2_lookUp 58 = .ok (.iload 4, 2) := by decide +kernel
theorem dX2_lookUp_60 : decode cX2_lookUp 60 = .ok (.iastore, 1) := by decide +kernel
theorem dX2_lookUp_61 : decode cX2_lookUp 61 = .ok (.return_, 1) := by decide +kernel
theorem dX2_weigh_0 : decode cX2_weigh 0 = .ok (.iload_n 3, 1) := by decide +kernel
theorem dX2_weigh_1 : decode cX2_weigh 1 = .ok (.ifCond .eq 14, 3) := by decide +kernel
theorem dX2_weigh_4 : decode cX2_weigh 4 = .ok (.aload_n 0, 1) := by decide +kernel
theorem dX2_weigh_5 : decode cX2_weigh 5 = .ok (.getfield 11, 3) := by decide +kernel
theorem dX2_weigh_8 : decode cX2_weigh 8 = .ok (.iload_n 1, 1) := by decide +kernel
theorem dX2_weigh_9 : decode cX2_weigh 9 = .ok (.ldc 51, 2) := by decide +kernel
theorem dX2_weigh_11 : decode cX2_weigh 11 = .ok (.iastore, 1) := by decide +kernel
theorem dX2_weigh_12 : decode cX2_weigh 12 = .ok (.goto 29, 3) := by decide +kernel
theorem dX2_weigh_15 : decode cX2_weigh 15 = .ok (.aload_n 0, 1) := by decide +kernel
theorem dX2_weigh_16 : decode cX2_weigh 16 = .ok (.getfield 11, 3) := by decide +kernel
theorem dX2_weigh_19 : decode cX2_weigh 19 = .ok (.iload_n 1, 1) := by decide +kernel
theorem dX2_weigh_20 : decode cX2_weigh 20 = .ok (.iaload, 1) := by decide +kernel
theorem dX2_weigh_21 : decode cX2_weigh 21 = .ok (.ldc 51, 2) := by decide +kernel
theorem dX2_weigh_23 : decode cX2_weigh 23 = .ok (.if_icmp .ge 18, 3) := by decide +kernel
theorem dX2_weigh_26 : decode cX2_weigh 26 = .ok (.aload_n 0, 1) := by decide +kernel
theorem dX2_weigh_27 : decode cX2_weigh 27 = .ok (.getfield 11, 3) := by decide +kernel
theorem dX2_weigh_30 : decode cX2_weigh 30 = .ok (.iload_n 1, 1) := by decide +kernel
theorem dX2_weigh_31 : decode cX2_weigh 31 = .ok (.dup2, 1) := by decide +kernel
theorem dX2_weigh_32 : decode cX2_weigh 32 = .ok (.iaload, 1) := by decide +kernel
theorem dX2_weigh_33 : decode cX2_weigh 33 = .ok (.iload_n 2, 1) := by decide +kernel
theorem dX2_weigh_34 : decode cX2_weigh 34 = .ok (.bipush 32, 2) := by decide +kernel
theorem dX2_weigh_36 : decode cX2_weigh 36 = .ok (.imul, 1) := by decide +kernel
theorem dX2_weigh_37 : decode cX2_weigh 37 = .ok (.iconst 1, 1) := by decide +kernel
theorem dX2_weigh_38 : decode cX2_weigh 38 = .ok (.iadd, 1) := by decide +kernel
theorem dX2_weigh_39 : decode cX2_weigh 39 = .ok (.iadd, 1) := by decide +kernel
theorem dX2_weigh_40 : decode cX2_weigh 40 = .ok (.iastore, 1) := by decide +kernel
theorem dX2_weigh_41 : decode cX2_weigh 41 = .ok (.return_, 1) := by decide +kernel
theorem dX2_follow_0 : decode cX2_follow 0 = .ok (.aload_n 0, 1) := by decide +kernel
theorem dX2_follow_1 : decode cX2_follow 1 = .ok (.iconst 0, 1) := by decide +kernel
theorem dX2_follow_2 : decode cX2_follow 2 = .ok (.putfield 52, 3) := by decide +kernel
theorem dX2_follow_5 : decode cX2_follow 5 = .ok (.aload_n 0, 1) := by decide +kernel
theorem dX2_follow_6 : decode cX2_follow 6 = .ok (.getfield 11, 3) := by decide +kernel
theorem dX2_follow_9 : decode cX2_follow 9 = .ok (.iconst 0, 1) := by decide +kernel
theorem dX2_follow_10 : decode cX2_follow 10 = .ok (.iaload, 1) := by decide +kernel
theorem dX2_follow_11 : decode cX2_follow 11 = .ok (.ldc 51, 2) := by decide +kernel
theorem dX2_follow_13 : decode cX2_follow 13 = .ok (.if_icmp .ge 12, 3) := by decide +kernel
theorem dX2_follow_16 : decode cX2_follow 16 = .ok (.aload_n 0, 1) := by decide +kernel
theorem dX2_follow_17 : decode cX2_follow 17 = .ok (.getfield 17, 3) := by decide +kernel
theorem dX2_follow_20 : decode cX2_follow 20 = .ok (.iconst 0, 1) := by decide +kernel
theorem dX2_follow_21 : decode cX2_follow 21 = .ok (.iaload, 1) := by decide +kernel
theorem dX2_follow_22 : decode cX2_follow 22 = .ok (.goto 4, 3) := by decide +kernel
theorem dX2_follow_25 : decode cX2_follow 25 = .ok (.iload_n 1, 1) := by decide +kernel
theorem dX2_follow_26 : decode cX2_follow 26 = .ok (.istore_n 2, 1) := by decide +kernel
theorem dX2_follow_27 : decode cX2_follow 27 = .ok (.aload_n 0, 1) := by decide +kernel
theorem dX2_follow_28 : decode cX2_follow 28 = .ok (.getfield 52, 3) := by decide +kernel
theorem dX2_follow_31 : decode cX2_follow 31 = .ok (.bipush 18, 2) := by decide +kernel
theorem dX2_follow_33 : decode cX2_follow 33 = .ok (.if_icmp .ge 44, 3) := by decide +kernel
theorem dX2_follow_36 : decode cX2_follow 36 = .ok (.iload_n 2, 1) := by decide +kernel
theorem dX2_follow_37 : decode cX2_follow 37 = .ok (.ifCond .le 40, 3) := by decide +kernel
theorem dX2_follow_40 : decode cX2_follow 40 = .ok (.iload_n 2, 1) := by decide +kernel
theorem dX2_follow_41 : decode cX2_follow 41 = .ok (.iload_n 1, 1) := by decide +kernel
theorem dX2_follow_42 : decode cX2_follow 42 = .ok (.if_icmp .ge 35, 3) := by decide +kernel
theorem dX2_follow_45 : decode cX2_follow 45 = .ok (.aload_n 0, 1) := by decide +kernel
theorem dX2_follow_46 : decode cX2_follow 46 = .ok (.getfield 20, 3) := by decide +kernel
theorem dX2_follow_49 : decode cX2_follow 49 = .ok (.aload_n 0, 1) := by decide +kernel
theorem dX2_follow_50 : decode cX2_follow 50 = .ok (.getfield 52, 3) := by decide +kernel
theorem dX2_follow_53 : decode cX2_follow 53 = .ok (.iload_n 2, 1) := by decide +kernel
theorem dX2_follow_54 : decode cX2_follow 54 = .ok (.iconst 1, 1) := by decide +kernel
theorem dX2_follow_55 : decode cX2_follow 55 = .ok (.isub, 1) := by decide +kernel
theorem dX2_follow_56 : decode cX2_follow 56 = .ok (.iastore, 1) := by decide +kernel
theorem dX2_follow_57 : decode cX2_follow 57 = .ok (.aload_n 0, 1) := by decide +kernel
theorem dX2_follow_58 : decode cX2_follow 58 = .ok (.dup, 1) := by decide +kernel
theorem dX2_follow_59 : decode cX2_follow 59 = .ok (.getfield 52, 3) := by decide +kernel
theorem dX2_follow_62 : decode cX2_follow 62 = .ok (.iconst 1, 1) := by decide +kernel
theorem dX2_follow_63 : decode cX2_follow 63 = .ok (.iadd, 1) := by decide +kernel
theorem dX2_follow_64 : decode cX2_follow 64 = .ok (.putfield 52, 3) := by decide +kernel
theorem dX2_follow_67 : decode cX2_follow 67 = .ok (.aload_n 0, 1) := by decide +kernel
theorem dX2_follow_68 : decode cX2_follow 68 = .ok (.getfield 17, 3) := by decide +kernel
theorem dX2_follow_71 : decode cX2_follow 71 = .ok (.iload_n 2, 1) := by decide +kernel
theorem dX2_follow_72 : decode cX2_follow 72 = .ok (.iaload, 1) := by decide +kernel
theorem dX2_follow_73 : decode cX2_follow 73 = .ok (.istore_n 2, 1) := by decide +kernel
theorem dX2_follow_74 : decode cX2_follow 74 = .ok (.goto (-47), 3) := by decide +kernel
theorem dX2_follow_77 : decode cX2_follow 77 = .ok (.return_, 1) := by decide +kernel
theorem dX2_isThere_0 : decode cX2_isThere 0 = .ok (.aload_n 0, 1) := by decide +kernel
theorem dX2_isThere_1 : decode cX2_isThere 1 = .ok (.getfield 11, 3) := by decide +kernel
theorem dX2_isThere_4 : decode cX2_isThere 4 = .ok (.iconst 0, 1) := by decide +kernel
theorem dX2_isThere_5 : decode cX2_isThere 5 = .ok (.iaload, 1) := by decide +kernel
theorem dX2_isThere_6 : decode cX2_isThere 6 = .ok (.ldc 51, 2) := by decide +kernel
theorem dX2_isThere_8 : decode cX2_isThere 8 = .ok (.if_icmp .ge 7, 3) := by decide +kernel
theorem dX2_isThere_11 : decode cX2_isThere 11 = .ok (.iconst 1, 1) := by decide +kernel
theorem dX2_isThere_12 : decode cX2_isThere 12 = .ok (.goto 4, 3) := by decide +kernel
theorem dX2_isThere_15 : decode cX2_isThere 15 = .ok (.iconst 0, 1) := by decide +kernel
theorem dX2_isThere_16 : decode cX2_isThere 16 = .ok (.ireturn, 1) := by decide +kernel
theorem dX2_treads_0 : decode cX2_treads 0 = .ok (.aload_n 0, 1) := by decide +kernel
theorem dX2_treads_1 : decode cX2_treads 1 = .ok (.getfield 52, 3) := by decide +kernel
theorem dX2_treads_4 : decode cX2_treads 4 = .ok (.ireturn, 1) := by decide +kernel
theorem dX2_tread_0 : decode cX2_tread 0 = .ok (.iload_n 1, 1) := by decide +kernel
theorem dX2_tread_1 : decode cX2_tread 1 = .ok (.ifCond .lt 20, 3) := by decide +kernel
theorem dX2_tread_4 : decode cX2_tread 4 = .ok (.iload_n 1, 1) := by decide +kernel
theorem dX2_tread_5 : decode cX2_tread 5 = .ok (.aload_n 0, 1) := by decide +kernel
theorem dX2_tread_6 : decode cX2_tread 6 = .ok (.getfield 52, 3) := by decide +kernel
theorem dX2_tread_9 : decode cX2_tread 9 = .ok (.if_icmp .ge 12, 3) := by decide +kernel
theorem dX2_tread_12 : decode cX2_tread 12 = .ok (.aload_n 0, 1) := by decide +kernel
theorem dX2_tread_13 : decode cX2_tread 13 = .ok (.getfield 20, 3) := by decide +kernel
theorem dX2_tread_16 : decode cX2_tread 16 = .ok (.iload_n 1, 1) := by decide +kernel
theorem dX2_tread_17 : decode cX2_tread 17 = .ok (.iaload, 1) := by decide +kernel
theorem dX2_tread_18 : decode cX2_tread 18 = .ok (.goto 5, 3) := by decide +kernel
theorem dX2_tread_21 : decode cX2_tread 21 = .ok (.ldc 55, 2) := by decide +kernel
theorem dX2_tread_23 : decode cX2_tread 23 = .ok (.ireturn, 1) := by decide +kernel
theorem dX2_askedInAll_0 : decode cX2_askedInAll 0 = .ok (.aload_n 0, 1) := by decide +kernel
theorem dX2_askedInAll_1 : decode cX2_askedInAll 1 = .ok (.getfield 11, 3) := by decide +kernel
theorem dX2_askedInAll_4 : decode cX2_askedInAll 4 = .ok (.iconst 0, 1) := by decide +kernel
theorem dX2_askedInAll_5 : decode cX2_askedInAll 5 = .ok (.iaload, 1) := by decide +kernel
theorem dX2_askedInAll_6 : decode cX2_askedInAll 6 = .ok (.bipush 32, 2) := by decide +kernel
theorem dX2_askedInAll_8 : decode cX2_askedInAll 8 = .ok (.idiv, 1) := by decide +kernel
theorem dX2_askedInAll_9 : decode cX2_askedInAll 9 = .ok (.ireturn, 1) := by decide +kernel
theorem dX2_cost_0 : decode cX2_cost 0 = .ok (.aload_n 0, 1) := by decide +kernel
theorem dX2_cost_1 : decode cX2_cost 1 = .ok (.invokevirtual 56, 3) := by decide +kernel
theorem dX2_cost_4 : decode cX2_cost 4 = .ok (.aload_n 1, 1) := by decide +kernel
theorem dX2_cost_5 : decode cX2_cost 5 = .ok (.iload_n 2, 1) := by decide +kernel
theorem dX2_cost_6 : decode cX2_cost 6 = .ok (.invokevirtual 60, 3) := by decide +kernel
theorem dX2_cost_9 : decode cX2_cost 9 = .ok (.imul, 1) := by decide +kernel
theorem dX2_cost_10 : decode cX2_cost 10 = .ok (.ireturn, 1) := by decide +kernel
theorem dX2_isGone_0 : decode cX2_isGone 0 = .ok (.aload_n 0, 1) := by decide +kernel
theorem dX2_isGone_1 : decode cX2_isGone 1 = .ok (.invokevirtual 64, 3) := by decide +kernel
theorem dX2_isGone_4 : decode cX2_isGone 4 = .ok (.ifCond .eq 30, 3) := by decide +kernel
theorem dX2_isGone_7 : decode cX2_isGone 7 = .ok (.aload_n 1, 1) := by decide +kernel
theorem dX2_isGone_8 : decode cX2_isGone 8 = .ok (.iload_n 2, 1) := by decide +kernel
theorem dX2_isGone_9 : decode cX2_isGone 9 = .ok (.invokevirtual 68, 3) := by decide +kernel
theorem dX2_isGone_12 : decode cX2_isGone 12 = .ok (.ifCond .eq 22, 3) := by decide +kernel
theorem dX2_isGone_15 : decode cX2_isGone 15 = .ok (.aload_n 0, 1) := by decide +kernel
theorem dX2_isGone_16 : decode cX2_isGone 16 = .ok (.aload_n 1, 1) := by decide +kernel
theorem dX2_isGone_17 : decode cX2_isGone 17 = .ok (.iload_n 2, 1) := by decide +kernel
theorem dX2_isGone_18 : decode cX2_isGone 18 = .ok (.invokevirtual 72, 3) := by decide +kernel
theorem dX2_isGone_21 : decode cX2_isGone 21 = .ok (.aload_n 1, 1) := by decide +kernel
theorem dX2_isGone_22 : decode cX2_isGone 22 = .ok (.getfield 76, 3) := by decide +kernel
theorem dX2_isGone_25 : decode cX2_isGone 25 = .ok (.iload_n 2, 1) := by decide +kernel
theorem dX2_isGone_26 : decode cX2_isGone 26 = .ok (.iaload, 1) := by decide +kernel
theorem dX2_isGone_27 : decode cX2_isGone 27 = .ok (.if_icmp .gt 7, 3) := by decide +kernel
theorem dX2_isGone_30 : decode cX2_isGone 30 = .ok (.iconst 1, 1) := by decide +kernel
theorem dX2_isGone_31 : decode cX2_isGone 31 = .ok (.goto 4, 3) := by decide +kernel
theorem dX2_isGone_34 : decode cX2_isGone 34 = .ok (.iconst 0, 1) := by decide +kernel
theorem dX2_isGone_35 : decode cX2_isGone 35 = .ok (.ireturn, 1) := by decide +kernel
theorem dX2_askedBy_0 : decode cX2_askedBy 0 = .ok (.iconst 0, 1) := by decide +kernel
theorem dX2_askedBy_1 : decode cX2_askedBy 1 = .ok (.istore_n 3, 1) := by decide +kernel
theorem dX2_askedBy_2 : decode cX2_askedBy 2 = .ok (.iconst 0, 1) := by decide +kernel
theorem dX2_askedBy_3 : decode cX2_askedBy 3 = .ok (.istore 4, 2) := by decide +kernel
theorem dX2_askedBy_5 : decode cX2_askedBy 5 = .ok (.iload 4, 2) := by decide +kernel
theorem dX2_askedBy_7 : decode cX2_askedBy 7 = .ok (.aload_n 0, 1) := by decide +kernel
theorem dX2_askedBy_8 : decode cX2_askedBy 8 = .ok (.getfield 52, 3) := by decide +kernel
theorem dX2_askedBy_11 : decode cX2_askedBy 11 = .ok (.if_icmp .ge 39, 3) := by decide +kernel
theorem dX2_askedBy_14 : decode cX2_askedBy 14 = .ok (.aload_n 1, 1) := by decide +kernel
theorem dX2_askedBy_15 : decode cX2_askedBy 15 = .ok (.iload_n 2, 1) := by decide +kernel
theorem dX2_askedBy_16 : decode cX2_askedBy 16 = .ok (.aload_n 0, 1) := by decide +kernel
theorem dX2_askedBy_17 : decode cX2_askedBy 17 = .ok (.getfield 20, 3) := by decide +kernel
theorem dX2_askedBy_20 : decode cX2_askedBy 20 = .ok (.iload 4, 2) := by decide +kernel
theorem dX2_askedBy_22 : decode cX2_askedBy 22 = .ok (.iaload, 1) := by decide +kernel
theorem dX2_askedBy_23 : decode cX2_askedBy 23 = .ok (.invokevirtual 79, 3) := by decide +kernel
theorem dX2_askedBy_26 : decode cX2_askedBy 26 = .ok (.ifCond .eq 18, 3) := by decide +kernel
theorem dX2_askedBy_29 : decode cX2_askedBy 29 = .ok (.iload_n 3, 1) := by decide +kernel
theorem dX2_askedBy_30 : decode cX2_askedBy 30 = .ok (.aload_n 1, 1) := by decide +kernel
theorem dX2_askedBy_31 : decode cX2_askedBy 31 = .ok (.getfield 37, 3) := by decide +kernel
theorem dX2_askedBy_34 : decode cX2_askedBy 34 = .ok (.aload_n 0, 1) := by decide +kernel
theorem dX2_askedBy_35 : decode cX2_askedBy 35 = .ok (.getfield 20, 3) := by decide +kernel
theorem dX2_askedBy_38 : decode cX2_askedBy 38 = .ok (.iload 4, 2) := by decide +kernel
theorem dX2_askedBy_40 : decode cX2_askedBy 40 = .ok (.iaload, 1) := by decide +kernel
theorem dX2_askedBy_41 : decode cX2_askedBy 41 = .ok (.iaload, 1) := by decide +kernel
theorem dX2_askedBy_42 : decode cX2_askedBy 42 = .ok (.iadd, 1) := by decide +kernel
theorem dX2_askedBy_43 : decode cX2_askedBy 43 = .ok (.istore_n 3, 1) := by decide +kernel
theorem dX2_askedBy_44 : decode cX2_askedBy 44 = .ok (.iinc 4 1, 3) := by decide +kernel
theorem dX2_askedBy_47 : decode cX2_askedBy 47 = .ok (.goto (-42), 3) := by decide +kernel
theorem dX2_askedBy_50 : decode cX2_askedBy 50 = .ok (.iload_n 3, 1) := by decide +kernel
theorem dX2_askedBy_51 : decode cX2_askedBy 51 = .ok (.ireturn, 1) := by decide +kernel
theorem dX3_init_0 : decode cX3_init 0 = .ok (.aload_n 0, 1) := by decide +kernel
theorem dX3_init_1 : decode cX3_init 1 = .ok (.invokespecial 1, 3) := by decide +kernel
theorem dX3_init_4 : decode cX3_init 4 = .ok (.aload_n 0, 1) := by decide +kernel
theorem dX3_init_5 : decode cX3_init 5 = .ok (.new 7, 3) := by decide +kernel
theorem dX3_init_8 : decode cX3_init 8 = .ok (.dup, 1) := by decide +kernel
theorem dX3_init_9 : decode cX3_init 9 = .ok (.invokespecial 9, 3) := by decide +kernel
theorem dX3_init_12 : decode cX3_init 12 = .ok (.putfield 10, 3) := by decide +kernel
theorem dX3_init_15 : decode cX3_init 15 = .ok (.return_, 1) := by decide +kernel
theorem dX3_taken_0 : decode cX3_taken 0 = .ok (.iconst 0, 1) := by decide +kernel
theorem dX3_taken_1 : decode cX3_taken 1 = .ok (.istore_n 3, 1) := by decide +kernel
theorem dX3_taken_2 : decode cX3_taken 2 = .ok (.iconst 1, 1) := by decide +kernel
theorem dX3_taken_3 : decode cX3_taken 3 = .ok (.istore 4, 2) := by decide +kernel
theorem dX3_taken_5 : decode cX3_taken 5 = .ok (.iload 4, 2) := by decide +kernel
theorem dX3_taken_7 : decode cX3_taken 7 = .ok (.iconst 3, 1) := by decide +kernel
theorem dX3_taken_8 : decode cX3_taken 8 = .ok (.if_icmp .gt 72, 3) := by decide +kernel
theorem dX3_taken_11 : decode cX3_taken 11 = .ok (.aload_n 1, 1) := by decide +kernel
theorem dX3_taken_12 : decode cX3_taken 12 = .ok (.iload 4, 2) := by decide +kernel
theorem dX3_taken_14 : decode cX3_taken 14 = .ok (.invokevirtual 18, 3) := by decide +kernel
theorem dX3_taken_17 : decode cX3_taken 17 = .ok (.ifCond .eq 57, 3) := by decide +kernel
theorem dX3_taken_20 : decode cX3_taken 20 = .ok (.aload_n 0, 1) := by decide +kernel
theorem dX3_taken_21 : decode cX3_taken 21 = .ok (.getfield 10, 3) := by decide +kernel
theorem dX3_taken_24 : decode cX3_taken 24 = .ok (.aload_n 1, 1) := by decide +kernel
theorem dX3_taken_25 : decode cX3_taken 25 = .ok (.iload 4, 2) := by decide +kernel
theorem dX3_taken_27 : decode cX3_taken 27 = .ok (.invokevirtual 22, 3) := by decide +kernel
theorem dX3_taken_30 : decode cX3_taken 30 = .ok (.aload_n 1, 1) := by decide +kernel
theorem dX3_taken_31 : decode cX3_taken 31 = .ok (.iload 4, 2) := by decide +kernel
theorem dX3_taken_33 : decode cX3_taken 33 = .ok (.aload_n 0, 1) := by decide +kernel
theorem dX3_taken_34 : decode cX3_taken 34 = .ok (.getfield 10, 3) := by decide +kernel
theorem dX3_taken_37 : decode cX3_taken 37 = .ok (.invokevirtual 26, 3) := by decide +kernel
theorem dX3_taken_40 : decode cX3_taken 40 = .ok (.invokevirtual 30, 3) := by decide +kernel
theorem dX3_taken_43 : decode cX3_taken 43 = .ok (.istore 5, 2) := by decide +kernel
theorem dX3_taken_45 : decode cX3_taken 45 = .ok (.iload_n 3, 1) := by decide +kernel
theorem dX3_taken_46 : decode cX3_taken 46 = .ok (.aload_n 0, 1) := by decide +kernel
theorem dX3_taken_47 : decode cX3_taken 47 = .ok (.getfield 10, 3) := by decide +kernel
theorem dX3_taken_50 : decode cX3_taken 50 = .ok (.invokevirtual 34, 3) := by decide +kernel
theorem dX3_taken_53 : decode cX3_taken 53 = .ok (.ifCond .eq 18, 3) := by decide +kernel
theorem dX3_taken_56 : decode cX3_taken 56 = .ok (.iload 5, 2) := by decide +kernel
theorem dX3_taken_58 : decode cX3_taken 58 = .ok (.aload_n 0, 1) := by decide +kernel
theorem dX3_taken_59 : decode cX3_taken 59 = .ok (.getfield 10, 3) := by decide +kernel
theorem dX3_taken_62 : decode cX3_taken 62 = .ok (.aload_n 1, 1) := by decide +kernel
theorem dX3_taken_63 : decode cX3_taken 63 = .ok (.iload_n 2, 1) := by decide +kernel
theorem dX3_taken_64 : decode cX3_taken 64 = .ok (.invokevirtual 38, 3) := by decide +kernel
theorem dX3_taken_67 : decode cX3_taken 67 = .ok (.imul, 1) := by decide +kernel
theorem dX3_taken_68 : decode cX3_taken 68 = .ok (.goto 4, 3) := by decide +kernel
theorem dX3_taken_71 : decode cX3_taken 71 = .ok (.iconst 0, 1) := by decide +kernel
theorem dX3_taken_72 : decode cX3_taken 72 = .ok (.iadd, 1) := by decide +kernel
theorem dX3_taken_73 : decode cX3_taken 73 = .ok (.istore_n 3, 1) := by decide +kernel
theorem dX3_taken_74 : decode cX3_taken 74 = .ok (.iinc 4 1, 3) := by decide +kernel
theorem dX3_taken_77 : decode cX3_taken 77 = .ok (.goto (-72), 3) := by decide +kernel
theorem dX3_taken_80 : decode cX3_taken 80 = .ok (.iload_n 3, 1) := by decide +kernel
theorem dX3_taken_81 : decode cX3_taken 81 = .ok (.ireturn, 1) := by decide +kernel
theorem dX3_seek_0 : decode cX3_seek 0 = .ok (.aload_n 0, 1) := by decide +kernel
theorem dX3_seek_1 : decode cX3_seek 1 = .ok (.iconst 0, 1) := by decide +kernel
theorem dX3_seek_2 : decode cX3_seek 2 = .ok (.putfield 42, 3) := by decide +kernel
theorem dX3_seek_5 : decode cX3_seek 5 = .ok (.aload_n 0, 1) := by decide +kernel
theorem dX3_seek_6 : decode cX3_seek 6 = .ok (.iconst (-1), 1) := by decide +kernel
theorem dX3_seek_7 : decode cX3_seek 7 = .ok (.putfield 46, 3) := by decide +kernel
theorem dX3_seek_10 : decode cX3_seek 10 = .ok (.iconst 0, 1) := by decide +kernel
theorem dX3_seek_11 : decode cX3_seek 11 = .ok (.istore_n 3, 1) := by decide +kernel
theorem dX3_seek_12 : decode cX3_seek 12 = .ok (.iload_n 3, 1) := by decide +kernel
theorem dX3_seek_13 : decode cX3_seek 13 = .ok (.bipush 20, 2) := by decide +kernel
theorem dX3_seek_15 : decode cX3_seek 15 = .ok (.if_icmp .gt 43, 3) := by decide +kernel
theorem dX3_seek_18 : decode cX3_seek 18 = .ok (.aload_n 1, 1) := by decide +kernel
theorem dX3_seek_19 : decode cX3_seek 19 = .ok (.iload_n 2, 1) := by decide +kernel
theorem dX3_seek_20 : decode cX3_seek 20 = .ok (.iload_n 3, 1) := by decide +kernel
theorem dX3_seek_21 : decode cX3_seek 21 = .ok (.invokevirtual 49, 3) := by decide +kernel
theorem dX3_seek_24 : decode cX3_seek 24 = .ok (.aload_n 0, 1) := by decide +kernel
theorem dX3_seek_25 : decode cX3_seek 25 = .ok (.aload_n 1, 1) := by decide +kernel
theorem dX3_seek_26 : decode cX3_seek 26 = .ok (.iload_n 2, 1) := by decide +kernel
theorem dX3_seek_27 : decode cX3_seek 27 = .ok (.invokevirtual 53, 3) := by decide +kernel
theorem dX3_seek_30 : decode cX3_seek 30 = .ok (.istore 4, 2) := by decide +kernel
theorem dX3_seek_32 : decode cX3_seek 32 = .ok (.iload 4, 2) := by decide +kernel
theorem dX3_seek_34 : decode cX3_seek 34 = .ok (.aload_n 0, 1) := by decide +kernel
theorem dX3_seek_35 : decode cX3_seek 35 = .ok (.getfield 46, 3) := by decide +kernel
theorem dX3_seek_38 : decode cX3_seek 38 = .ok (.if_icmp .le 14, 3) := by decide +kernel
theorem dX3_seek_41 : decode cX3_seek 41 = .ok (.aload_n 0, 1) := by decide +kernel
theorem dX3_seek_42 : decode cX3_seek 42 = .ok (.iload 4, 2) := by decide +kernel
theorem dX3_seek_44 : decode cX3_seek 44 = .ok (.putfield 46, 3) := by decide +kernel
theorem dX3_seek_47 : decode cX3_seek 47 = .ok (.aload_n 0, 1) := by decide +kernel
theorem dX3_seek_48 : decode cX3_seek 48 = .ok (.iload_n 3, 1) := by decide +kernel
theorem dX3_seek_49 : decode cX3_seek 49 = .ok (.putfield 42, 3) := by decide +kernel
theorem dX3_seek_52 : decode cX3_seek 52 = .ok (.iinc 3 1, 3) := by decide +kernel
theorem dX3_seek_55 : decode cX3_seek 55 = .ok (.goto (-43), 3) := by decide +kernel
theorem dX3_seek_58 : decode cX3_seek 58 = .ok (.aload_n 1, 1) := by decide +kernel
theorem dX3_seek_59 : decode cX3_seek 59 = .ok (.iload_n 2, 1) := by decide +kernel
theorem dX3_seek_60 : decode cX3_seek 60 = .ok (.aload_n 0, 1) := by decide +kernel
theorem dX3_seek_61 : decode cX3_seek 61 = .ok (.getfield 42, 3) := by decide +kernel
theorem dX3_seek_64 : decode cX3_seek 64 = .ok (.invokevirtual 49, 3) := by decide +kernel
theorem dX3_seek_67 : decode cX3_seek 67 = .ok (.return_, 1) := by decide +kernel
theorem dX3_bestAsking_0 : decode cX3_bestAsking 0 = .ok (.aload_n 0, 1) := by decide +kernel
theorem dX3_bestAsking_1 : decode cX3_bestAsking 1 = .ok (.getfield 42, 3) := by decide +kernel
theorem dX3_bestAsking_4 : decode cX3_bestAsking 4 = .ok (.ireturn, 1) := by decide +kernel
theorem dX3_bestTaken_0 : decode cX3_bestTaken 0 = .ok (.aload_n 0, 1) := by decide +kernel
theorem dX3_bestTaken_1 : decode cX3_bestTaken 1 = .ok (.getfield 46, 3) := by decide +kernel
theorem dX3_bestTaken_4 : decode cX3_bestTaken 4 = .ok (.ireturn, 1) := by decide +kernel
theorem dX4_init_0 : decode cX4_init 0 = .ok (.aload_n 0, 1) := by decide +kernel
theorem dX4_init_1 : decode cX4_init 1 = .ok (.invokespecial 1, 3) := by decide +kernel
theorem dX4_init_4 : decode cX4_init 4 = .ok (.aload_n 0, 1) := by decide +kernel
theorem dX4_init_5 : decode cX4_init 5 = .ok (.sipush 400, 3) := by decide +kernel
theorem dX4_init_8 : decode cX4_init 8 = .ok (.newarray .int, 2) := by decide +kernel
theorem dX4_init_10 : decode cX4_init 10 = .ok (.putfield 9, 3) := by decide +kernel
theorem dX4_init_13 : decode cX4_init 13 = .ok (.return_, 1) := by decide +kernel
theorem dX4_bytes_0 : decode cX4_bytes 0 = .ok (.aload_n 0, 1) := by decide +kernel
theorem dX4_bytes_1 : decode cX4_bytes 1 = .ok (.getfield 13, 3) := by decide +kernel
theorem dX4_bytes_4 : decode cX4_bytes 4 = .ok (.ireturn, 1) := by decide +kernel
theorem dX4_hasRoomFor_0 : decode cX4_hasRoomFor 0 = .ok (.iload_n 1, 1) := by decide +kernel
theorem dX4_hasRoomFor_1 : decode cX4_hasRoomFor 1 = .ok (.ifCond .lt 19, 3) := by decide +kernel
theorem dX4_hasRoomFor_4 : decode cX4_hasRoomFor 4 = .ok (.iload_n 1, 1) := by decide +kernel
theorem dX4_hasRoomFor_5 : decode cX4_hasRoomFor 5 = .ok (.sipush 400, 3) := by decide +kernel
theorem dX4_hasRoomFor_8 : decode cX4_hasRoomFor 8 = .ok (.aload_n 0, 1) := by decide +kernel
theorem dX4_hasRoomFor_9 : decode cX4_hasRoomFor 9 = .ok (.getfield 13, 3) := by decide +kernel
theorem dX4_hasRoomFor_12 : decode cX4_hasRoomFor 12 = .ok (.isub, 1) := by decide +kernel
theorem dX4_hasRoomFor_13 : decode cX4_hasRoomFor 13 = .ok (.if_icmp .gt 7, 3) := by decide +kernel
theorem dX4_hasRoomFor_16 : decode cX4_hasRoomFor 16 = .ok (.iconst 1, 1) := by decide +kernel
theorem dX4_hasRoomFor_17 : decode cX4_hasRoomFor 17 = .ok (.goto 4, 3) := by decide +kernel
theorem dX4_hasRoomFor_20 : decode cX4_hasRoomFor 20 = .ok (.iconst 0, 1) := by decide +kernel
theorem dX4_hasRoomFor_21 : decode cX4_hasRoomFor 21 = .ok (.ireturn, 1) := by decide +kernel
theorem dX4_append_0 : decode cX4_append 0 = .ok (.iload_n 3, 1) := by decide +kernel
theorem dX4_append_1 : decode cX4_append 1 = .ok (.iconst 1, 1) := by decide +kernel
theorem dX4_append_2 : decode cX4_append 2 = .ok (.isub, 1) := by decide +kernel
theorem dX4_append_3 : decode cX4_append 3 = .ok (.istore 4, 2) := by decide +kernel
theorem dX4_append_5 : decode cX4_append 5 = .ok (.iload 4, 2) := by decide +kernel
theorem dX4_append_7 : decode cX4_append 7 = .ok (.ifCond .lt 50, 3) := by decide +kernel
theorem dX4_append_10 : decode cX4_append 10 = .ok (.aload_n 0, 1) := by decide +kernel
theorem dX4_append_11 : decode cX4_append 11 = .ok (.getfield 13, 3) := by decide +kernel
theorem dX4_append_14 : decode cX4_append 14 = .ok (.sipush 400, 3) := by decide +kernel
theorem dX4_append_17 : decode cX4_append 17 = .ok (.if_icmp .ge 40, 3) := by decide +kernel
theorem dX4_append_20 : decode cX4_append 20 = .ok (.aload_n 0, 1) := by decide +kernel
theorem dX4_append_21 : decode cX4_append 21 = .ok (.getfield 9, 3) := by decide +kernel
theorem dX4_append_24 : decode cX4_append 24 = .ok (.aload_n 0, 1) := by decide +kernel
theorem dX4_append_25 : decode cX4_append 25 = .ok (.getfield 13, 3) := by decide +kernel
theorem dX4_append_28 : decode cX4_append 28 = .ok (.lload_n 1, 1) := by decide +kernel
theorem dX4_append_29 : decode cX4_append 29 = .ok (.bipush 8, 2) := by decide +kernel
theorem dX4_append_31 : decode cX4_append 31 = .ok (.iload 4, 2) := by decide +kernel
theorem dX4_append_33 : decode cX4_append 33 = .ok (.imul, 1) := by decide +kernel
theorem dX4_append_34 : decode cX4_append 34 = .ok (.lushr, 1) := by decide +kernel
theorem dX4_append_35 : decode cX4_append 35 = .ok (.ldc2_w 17, 3) := by decide +kernel
theorem dX4_append_38 : decode cX4_append 38 = .ok (.land, 1) := by decide +kernel
theorem dX4_append_39 : decode cX4_append 39 = .ok (.l2i, 1) := by decide +kernel
theorem dX4_append_40 : decode cX4_append 40 = .ok (.iastore, 1) := by decide +kernel
theorem dX4_append_41 : decode cX4_append 41 = .ok (.aload_n 0, 1) := by decide +kernel
theorem dX4_append_42 : decode cX4_append 42 = .ok (.dup, 1) := by decide +kernel
theorem dX4_append_43 : decode cX4_append 43 = .ok (.getfield 13, 3) := by decide +kernel
theorem dX4_append_46 : decode cX4_append 46 = .ok (.iconst 1, 1) := by decide +kernel
theorem dX4_append_47 : decode cX4_append 47 = .ok (.iadd, 1) := by decide +kernel
theorem dX4_append_48 : decode cX4_append 48 = .ok (.putfield 13, 3) := by decide +kernel
theorem dX4_append_51 : decode cX4_append 51 = .ok (.iinc 4 (-1), 3) := by decide +kernel
theorem dX4_append_54 : decode cX4_append 54 = .ok (.goto (-49), 3) := by decide +kernel
theorem dX4_append_57 : decode cX4_append 57 = .ok (.aload_n 0, 1) := by decide +kernel
theorem dX4_append_58 : decode cX4_append 58 = .ok (.getfield 13, 3) := by decide +kernel
theorem dX4_append_61 : decode cX4_append 61 = .ok (.ireturn, 1) := by decide +kernel
theorem dX4_place_0 : decode cX4_place 0 = .ok (.aload_n 0, 1) := by decide +kernel
theorem dX4_place_1 : decode cX4_place 1 = .ok (.getfield 19, 3) := by decide +kernel
theorem dX4_place_4 : decode cX4_place 4 = .ok (.ireturn, 1) := by decide +kernel
theorem dX4_read_0 : decode cX4_read 0 = .ok (.aload_n 1, 1) := by decide +kernel
theorem dX4_read_1 : decode cX4_read 1 = .ok (.invokevirtual 22, 3) := by decide +kernel
theorem dX4_read_4 : decode cX4_read 4 = .ok (.aload_n 0, 1) := by decide +kernel
theorem dX4_read_5 : decode cX4_read 5 = .ok (.iconst 0, 1) := by decide +kernel
theorem dX4_read_6 : decode cX4_read 6 = .ok (.putfield 27, 3) := by decide +kernel
theorem dX4_read_9 : decode cX4_read 9 = .ok (.aload_n 0, 1) := by decide +kernel
theorem dX4_read_10 : decode cX4_read 10 = .ok (.iconst 0, 1) := by decide +kernel
theorem dX4_read_11 : decode cX4_read 11 = .ok (.putfield 30, 3) := by decide +kernel
theorem dX4_read_14 : decode cX4_read 14 = .ok (.aload_n 0, 1) := by decide +kernel
theorem dX4_read_15 : decode cX4_read 15 = .ok (.invokevirtual 33, 3) := by decide +kernel
theorem dX4_read_18 : decode cX4_read 18 = .ok (.aload_n 0, 1) := by decide +kernel
theorem dX4_read_19 : decode cX4_read 19 = .ok (.ldc 36, 2) := by decide +kernel
theorem dX4_read_21 : decode cX4_read 21 = .ok (.invokevirtual 38, 3) := by decide +kernel
theorem dX4_read_24 : decode cX4_read 24 = .ok (.ifCond .ne 8, 3) := by decide +kernel
theorem dX4_read_27 : decode cX4_read 27 = .ok (.aload_n 0, 1) := by decide +kernel
theorem dX4_read_28 : decode cX4_read 28 = .ok (.iconst 1, 1) := by decide +kernel
theorem dX4_read_29 : decode cX4_read 29 = .ok (.invokevirtual 42, 3) := by decide +kernel
theorem dX4_read_32 : decode cX4_read 32 = .ok (.iconst 0, 1) := by decide +kernel
theorem dX4_read_33 : decode cX4_read 33 = .ok (.istore_n 2, 1) := by decide +kernel
theorem dX4_read_34 : decode cX4_read 34 = .ok (.iload_n 2, 1) := by decide +kernel
theorem dX4_read_35 : decode cX4_read 35 = .ok (.bipush 18, 2) := by decide +kernel
theorem dX4_read_37 : decode cX4_read 37 = .ok (.if_icmp .gt 30, 3) := by decide +kernel
theorem dX4_read_40 : decode cX4_read 40 = .ok (.aload_n 0, 1) := by decide +kernel
theorem dX4_read_41 : decode cX4_read 41 = .ok (.getfield 30, 3) := by decide +kernel
theorem dX4_read_44 : decode cX4_read 44 = .ok (.ifCond .ne 23, 3) := by decide +kernel
theorem dX4_read_47 : decode cX4_read 47 = .ok (.aload_n 0, 1) := by decide +kernel
theorem dX4_read_48 : decode cX4_read 48 = .ok (.ldc 36, 2) := by decide +kernel
theorem dX4_read_50 : decode cX4_read 50 = .ok (.invokevirtual 38, 3) := by decide +kernel
theorem dX4_read_53 : decode cX4_read 53 = .ok (.ifCond .eq 14, 3) := by decide +kernel
theorem dX4_read_56 : decode cX4_read 56 = .ok (.aload_n 0, 1) := by decide +kernel
theorem dX4_read_57 : decode cX4_read 57 = .ok (.aload_n 1, 1) := by decide +kernel
theorem dX4_read_58 : decode cX4_read 58 = .ok (.invokevirtual 46, 3) := by decide +kernel
theorem dX4_read_61 : decode cX4_read 61 = .ok (.iinc 2 1, 3) := by decide +kernel
theorem dX4_read_64 : decode cX4_read 64 = .ok (.goto (-30), 3) := by decide +kernel
theorem dX4_read_67 : decode cX4_read 67 = .ok (.iconst 0, 1) := by decide +kernel
theorem dX4_read_68 : decode cX4_read 68 = .ok (.istore_n 2, 1) := by decide +kernel
theorem dX4_read_69 : decode cX4_read 69 = .ok (.iload_n 2, 1) := by decide +kernel
theorem dX4_read_70 : decode cX4_read 70 = .ok (.bipush 6, 2) := by decide +kernel
theorem dX4_read_72 : decode cX4_read 72 = .ok (.if_icmp .gt 30, 3) := by decide +kernel
theorem dX4_read_75 : decode cX4_read 75 = .ok (.aload_n 0, 1) := by decide +kernel
theorem dX4_read_76 : decode cX4_read 76 = .ok (.getfield 30, 3) := by decide +kernel
theorem dX4_read_79 : decode cX4_read 79 = .ok (.ifCond .ne 23, 3) := by decide +kernel
theorem dX4_read_82 : decode cX4_read 82 = .ok (.aload_n 0, 1) := by decide +kernel
theorem dX4_read_83 : decode cX4_read 83 = .ok (.ldc 50, 2) := by decide +kernel
theorem dX4_read_85 : decode cX4_read 85 = .ok (.invokevirtual 38, 3) := by decide +kernel
theorem dX4_read_88 : decode cX4_read 88 = .ok (.ifCond .eq 14, 3) := by decide +kernel
theorem dX4_read_91 : decode cX4_read 91 = .ok (.aload_n 0, 1) := by decide +kernel
theorem dX4_read_92 : decode cX4_read 92 = .ok (.aload_n 1, 1) := by decide +kernel
theorem dX4_read_93 : decode cX4_read 93 = .ok (.invokevirtual 52, 3) := by decide +kernel
theorem dX4_read_96 : decode cX4_read 96 = .ok (.iinc 2 1, 3) := by decide +kernel
theorem dX4_read_99 : decode cX4_read 99 = .ok (.goto (-30), 3) := by decide +kernel
theorem dX4_read_102 : decode cX4_read 102 = .ok (.aload_n 0, 1) := by decide +kernel
theorem dX4_read_103 : decode cX4_read 103 = .ok (.getfield 55, 3) := by decide +kernel
theorem dX4_read_106 : decode cX4_read 106 = .ok (.ifCond .eq 8, 3) := by decide +kernel
theorem dX4_read_109 : decode cX4_read 109 = .ok (.aload_n 0, 1) := by decide +kernel
theorem dX4_read_110 : decode cX4_read 110 = .ok (.iconst 1, 1) := by decide +kernel
theorem dX4_read_111 : decode cX4_read 111 = .ok (.invokevirtual 42, 3) := by decide +kernel
theorem dX4_read_114 : decode cX4_read 114 = .ok (.aload_n 0, 1) := by decide +kernel
theorem dX4_read_115 : decode cX4_read 115 = .ok (.iconst 0, 1) := by decide +kernel
theorem dX4_read_116 : decode cX4_read 116 = .ok (.putfield 13, 3) := by decide +kernel
theorem dX4_read_119 : decode cX4_read 119 = .ok (.aload_n 0, 1) := by decide +kernel
theorem dX4_read_120 : decode cX4_read 120 = .ok (.getfield 30, 3) := by decide +kernel
theorem dX4_read_123 : decode cX4_read 123 = .ok (.ireturn, 1) := by decide +kernel
theorem dX4_fail_0 : decode cX4_fail 0 = .ok (.aload_n 0, 1) := by decide +kernel
theorem dX4_fail_1 : decode cX4_fail 1 = .ok (.getfield 30, 3) := by decide +kernel
theorem dX4_fail_4 : decode cX4_fail 4 = .ok (.ifCond .ne 8, 3) := by decide +kernel
theorem dX4_fail_7 : decode cX4_fail 7 = .ok (.aload_n 0, 1) := by decide +kernel
theorem dX4_fail_8 : decode cX4_fail 8 = .ok (.iload_n 1, 1) := by decide +kernel
theorem dX4_fail_9 : decode cX4_fail 9 = .ok (.putfield 30, 3) := by decide +kernel
theorem dX4_fail_12 : decode cX4_fail 12 = .ok (.return_, 1) := by decide +kernel
theorem dX4_readStep_0 : decode cX4_readStep 0 = .ok (.aload_n 0, 1) := by decide +kernel
theorem dX4_readStep_1 : decode cX4_readStep 1 = .ok (.aload_n 1, 1) := by decide +kernel
theorem dX4_readStep_2 : decode cX4_readStep 2 = .ok (.getfield 58, 3) := by decide +kernel
theorem dX4_readStep_5 : decode cX4_readStep 5 = .ok (.bipush 18, 2) := by decide +kernel
theorem dX4_readStep_7 : decode cX4_readStep 7 = .ok (.if_icmp .ge 7, 3) := by decide +kernel
theorem dX4_readStep_10 : decode cX4_readStep 10 = .ok (.iconst 1, 1) := by decide +kernel
theorem dX4_readStep_11 : decode cX4_readStep 11 = .ok (.goto 4, 3) := by decide +kernel
theorem dX4_readStep_14 : decode cX4_readStep 14 = .ok (.iconst 0, 1) := by decide +kernel
theorem dX4_readStep_15 : decode cX4_readStep 15 = .ok (.invokevirtual 61, 3) := by decide +kernel
theorem dX4_readStep_18 : decode cX4_readStep 18 = .ok (.aload_n 0, 1) := by decide +kernel
theorem dX4_readStep_19 : decode cX4_readStep 19 = .ok (.iconst 0, 1) := by decide +kernel
theorem dX4_readStep_20 : decode cX4_readStep 20 = .ok (.iconst 4, 1) := by decide +kernel
theorem dX4_readStep_21 : decode cX4_readStep 21 = .ok (.invokevirtual 65, 3) := by decide +kernel
theorem dX4_readStep_24 : decode cX4_readStep 24 = .ok (.istore_n 2, 1) := by decide +kernel
theorem dX4_readStep_25 : decode cX4_readStep 25 = .ok (.aload_n 0, 1) := by decide +kernel
theorem dX4_readStep_26 : decode cX4_readStep 26 = .ok (.iconst 0, 1) := by decide +kernel
theorem dX4_readStep_27 : decode cX4_readStep 27 = .ok (.bipush 20, 2) := by decide +kernel
theorem dX4_readStep_29 : decode cX4_readStep 29 = .ok (.invokevirtual 65, 3) := by decide +kernel
theorem dX4_readStep_32 : decode cX4_readStep 32 = .ok (.istore_n 3, 1) := by decide +kernel
theorem dX4_readStep_33 : decode cX4_readStep 33 = .ok (.aload_n 0, 1) := by decide +kernel
theorem dX4_readStep_34 : decode cX4_readStep 34 = .ok (.invokevirtual 69, 3) := by decide +kernel
theorem dX4_readStep_37 : decode cX4_readStep 37 = .ok (.aload_n 0, 1) := by decide +kernel
theorem dX4_readStep_38 : decode cX4_readStep 38 = .ok (.getfield 30, 3) := by decide +kernel
theorem dX4_readStep_41 : decode cX4_readStep 41 = .ok (.ifCond .ne 9, 3) := by decide +kernel
theorem dX4_readStep_44 : decode cX4_readStep 44 = .ok (.aload_n 1, 1) := by decide +kernel
theorem dX4_readStep_45 : decode cX4_readStep 45 = .ok (.iload_n 2, 1) := by decide +kernel
theorem dX4_readStep_46 : decode cX4_readStep 46 = .ok (.iload_n 3, 1) := by decide +kernel
theorem dX4_readStep_47 : decode cX4_readStep 47 = .ok (.invokevirtual 72, 3) := by decide +kernel
theorem dX4_readStep_50 : decode cX4_readStep 50 = .ok (.return_, 1) := by decide +kernel
theorem dX4_readWalker_0 : decode cX4_readWalker 0 = .ok (.aload_n 0, 1) := by decide +kernel
theorem dX4_readWalker_1 : decode cX4_readWalker 1 = .ok (.aload_n 1, 1) := by decide +kernel
theorem dX4_readWalker_2 : decode cX4_readWalker 2 = .ok (.getfield 76, 3) := by decide +kernel
theorem dX4_readWalker_5 : decode cX4_readWalker 5 = .ok (.bipush 6, 2) := by decide +kernel
theorem dX4_readWalker_7 : decode cX4_readWalker 7 = .ok (.if_icmp .ge 7, 3) := by decide +kernel
theorem dX4_readWalker_10 : decode cX4_readWalker 10 = .ok (.iconst 1, 1) := by decide +kernel
theorem dX4_readWalker_11 : decode cX4_readWalker 11 = .ok (.goto 4, 3) := by decide +kernel
theorem dX4_readWalker_14 : decode cX4_readWalker 14 = .ok (.iconst 0, 1) := by decide +kernel
theorem dX4_readWalker_15 : decode cX4_readWalker 15 = .ok (.invokevirtual 61, 3) := by decide +kernel
theorem dX4_readWalker_18 : decode cX4_readWalker 18 = .ok (.aload_n 0, 1) := by decide +kernel
theorem dX4_readWalker_19 : decode cX4_readWalker 19 = .ok (.iconst 1, 1) := by decide +kernel
theorem dX4_readWalker_20 : decode cX4_readWalker 20 = .ok (.iconst 3, 1) := by decide +kernel
theorem dX4_readWalker_21 : decode cX4_readWalker 21 = .ok (.invokevirtual 65, 3) := by decide +kernel
theorem dX4_readWalker_24 : decode cX4_readWalker 24 = .ok (.istore_n 2, 1) := by decide +kernel
theorem dX4_readWalker_25 : decode cX4_readWalker 25 = .ok (.aload_n 0, 1) := by decide +kernel
theorem dX4_readWalker_26 : decode cX4_readWalker 26 = .ok (.iconst 0, 1) := by decide +kernel
theorem dX4_readWalker_27 : decode cX4_readWalker 27 = .ok (.iconst 2, 1) := by decide +kernel
theorem dX4_readWalker_28 : decode cX4_readWalker 28 = .ok (.invokevirtual 65, 3) := by decide +kernel
theorem dX4_readWalker_31 : decode cX4_readWalker 31 = .ok (.istore_n 3, 1) := by decide +kernel
theorem dX4_readWalker_32 : decode cX4_readWalker 32 = .ok (.aload_n 0, 1) := by decide +kernel
theorem dX4_readWalker_33 : decode cX4_readWalker 33 = .ok (.iconst 0, 1) := by decide +kernel
theorem dX4_readWalker_34 : decode cX4_readWalker 34 = .ok (.sipush 200, 3) := by decide +kernel
theorem dX4_readWalker_37 : decode cX4_readWalker 37 = .ok (.invokevirtual 65, 3) := by decide +kernel
theorem dX4_readWalker_40 : decode cX4_readWalker 40 = .ok (.istore 4, 2) := by decide +kernel
theorem dX4_readWalker_42 : decode cX4_readWalker 42 = .ok (.aload_n 0, 1) := by decide +kernel
theorem dX4_readWalker_43 : decode cX4_readWalker 43 = .ok (.iconst 1, 1) := by decide +kernel
theorem dX4_readWalker_44 : decode cX4_readWalker 44 = .ok (.bipush 20, 2) := by decide +kernel
theorem dX4_readWalker_46 : decode cX4_readWalker 46 = .ok (.invokevirtual 65, 3) := by decide +kernel
theorem dX4_readWalker_49 : decode cX4_readWalker 49 = .ok (.istore 5, 2) := by decide +kernel
theorem dX4_readWalker_51 : decode cX4_readWalker 51 = .ok (.aload_n 0, 1) := by decide +kernel
theorem dX4_readWalker_52 : decode cX4_readWalker 52 = .ok (.invokevirtual 69, 3) := by decide +kernel
theorem dX4_readWalker_55 : decode cX4_readWalker 55 = .ok (.aload_n 0, 1) := by decide +kernel
theorem dX4_readWalker_56 : decode cX4_readWalker 56 = .ok (.getfield 30, 3) := by decide +kernel
theorem dX4_readWalker_59 : decode cX4_readWalker 59 = .ok (.ifCond .ne 13, 3) := by decide +kernel
theorem dX4_readWalker_62 : decode cX4_readWalker 62 = .ok (.aload_n 1, 1) := by decide +kernel
theorem dX4_readWalker_63 : decode cX4_readWalker 63 = .ok (.iload_n 2, 1) := by decide +kernel
theorem dX4_readWalker_64 : decode cX4_readWalker 64 = .ok (.iload_n 3, 1) := by decide +kernel
theorem dX4_readWalker_65 : decode cX4_readWalker 65 = .ok (.iload 4, 2) := by decide +kernel
theorem dX4_readWalker_67 : decode cX4_readWalker 67 = .ok (.iload 5, 2) := by decide +kernel
theorem dX4_readWalker_69 : decode cX4_readWalker 69 = .ok (.invokevirtual 79, 3) := by decide +kernel
theorem dX4_readWalker_72 : decode cX4_readWalker 72 = .ok (.return_, 1) := by decide +kernel
theorem dX4_passWord_0 : decode cX4_passWord 0 = .ok (.iload_n 1, 1) := by decide +kernel
theorem dX4_passWord_1 : decode cX4_passWord 1 = .ok (.ifCond .eq 10, 3) := by decide +kernel
theorem dX4_passWord_4 : decode cX4_passWord 4 = .ok (.aload_n 0, 1) := by decide +kernel
theorem dX4_passWord_5 : decode cX4_passWord 5 = .ok (.invokevirtual 33, 3) := by decide +kernel
theorem dX4_passWord_8 : decode cX4_passWord 8 = .ok (.goto 8, 3) := by decide +kernel
theorem dX4_passWord_11 : decode cX4_passWord 11 = .ok (.aload_n 0, 1) := by decide +kernel
theorem dX4_passWord_12 : decode cX4_passWord 12 = .ok (.iconst 3, 1) := by decide +kernel
theorem dX4_passWord_13 : decode cX4_passWord 13 = .ok (.invokevirtual 42, 3) := by decide +kernel
theorem dX4_passWord_16 : decode cX4_passWord 16 = .ok (.return_, 1) := by decide +kernel
theorem dX4_passSign_0 : decode cX4_passSign 0 = .ok (.aload_n 0, 1) := by decide +kernel
theorem dX4_passSign_1 : decode cX4_passSign 1 = .ok (.getfield 55, 3) := by decide +kernel
theorem dX4_passSign_4 : decode cX4_passSign 4 = .ok (.iconst 3, 1) := by decide +kernel
theorem dX4_passSign_5 : decode cX4_passSign 5 = .ok (.if_icmp .eq 8, 3) := by decide +kernel
theorem dX4_passSign_8 : decode cX4_passSign 8 = .ok (.aload_n 0, 1) := by decide +kernel
theorem dX4_passSign_9 : decode cX4_passSign 9 = .ok (.iconst 1, 1) := by decide +kernel
theorem dX4_passSign_10 : decode cX4_passSign 10 = .ok (.invokevirtual 42, 3) := by decide +kernel
theorem dX4_passSign_13 : decode cX4_passSign 13 = .ok (.aload_n 0, 1) := by decide +kernel
theorem dX4_passSign_14 : decode cX4_passSign 14 = .ok (.getfield 30, 3) := by decide +kernel
theorem dX4_passSign_17 : decode cX4_passSign 17 = .ok (.ifCond .ne 7, 3) := by decide +kernel
theorem dX4_passSign_20 : decode cX4_passSign 20 = .ok (.aload_n 0, 1) := by decide +kernel
theorem dX4_passSign_21 : decode cX4_passSign 21 = .ok (.invokevirtual 33, 3) := by decide +kernel
theorem dX4_passSign_24 : decode cX4_passSign 24 = .ok (.return_, 1) := by decide +kernel
theorem dX4_number_0 : decode cX4_number 0 = .ok (.aload_n 0, 1) := by decide +kernel
theorem dX4_number_1 : decode cX4_number 1 = .ok (.getfield 30, 3) := by decide +kernel
theorem dX4_number_4 : decode cX4_number 4 = .ok (.ifCond .eq 5, 3) := by decide +kernel
theorem dX4_number_7 : decode cX4_number 7 = .ok (.iload_n 1, 1) := by decide +kernel
theorem dX4_number_8 : decode cX4_number 8 = .ok (.ireturn, 1) := by decide +kernel
theorem dX4_number_9 : decode cX4_number 9 = .ok (.aload_n 0, 1) := by decide +kernel
theorem dX4_number_10 : decode cX4_number 10 = .ok (.getfield 55, 3) := by decide +kernel
theorem dX4_number_13 : decode cX4_number 13 = .ok (.iconst 2, 1) := by decide +kernel
theorem dX4_number_14 : decode cX4_number 14 = .ok (.if_icmp .eq 10, 3) := by decide +kernel
theorem dX4_number_17 : decode cX4_number 17 = .ok (.aload_n 0, 1) := by decide +kernel
theorem dX4_number_18 : decode cX4_number 18 = .ok (.iconst 1, 1) := by decide +kernel
theorem dX4_number_19 : decode cX4_number 19 = .ok (.invokevirtual 42, 3) := by decide +kernel
theorem dX4_number_22 : decode cX4_number 22 = .ok (.iload_n 1, 1) := by decide +kernel
theorem dX4_number_23 : decode cX4_number 23 = .ok (.ireturn, 1) := by decide +kernel
theorem dX4_number_24 : decode cX4_number 24 = .ok (.aload_n 0, 1) := by decide +kernel
theorem dX4_number_25 : decode cX4_number 25 = .ok (.getfield 83, 3) := by decide +kernel
theorem dX4_number_28 : decode cX4_number 28 = .ok (.iload_n 1, 1) := by decide +kernel
theorem dX4_number_29 : decode cX4_number 29 = .ok (.if_icmp .lt 11, 3) := by decide +kernel
theorem dX4_number_32 : decode cX4_number 32 = .ok (.aload_n 0, 1) := by decide +kernel
theorem dX4_number_33 : decode cX4_number 33 = .ok (.getfield 83, 3) := by decide +kernel
theorem dX4_number_36 : decode cX4_number 36 = .ok (.iload_n 2, 1) := by decide +kernel
theorem dX4_number_37 : decode cX4_number 37 = .ok (.if_icmp .le 10, 3) := by decide +kernel
theorem dX4_number_40 : decode cX4_number 40 = .ok (.aload_n 0, 1) := by decide +kernel
theorem dX4_number_41 : decode cX4_number 41 = .ok (.iconst 2, 1) := by decide +kernel
theorem dX4_number_42 : decode cX4_number 42 = .ok (.invokevirtual 42, 3) := by decide +kernel
theorem dX4_number_45 : decode cX4_number 45 = .ok (.iload_n 1, 1) := by decide +kernel
theorem dX4_number_46 : decode cX4_number 46 = .ok (.ireturn, 1) := by decide +kernel
theorem dX4_number_47 : decode cX4_number 47 = .ok (.aload_n 0, 1) := by decide +kernel
theorem dX4_number_48 : decode cX4_number 48 = .ok (.getfield 83, 3) := by decide +kernel
theorem dX4_number_51 : decode cX4_number 51 = .ok (.istore_n 3, 1) := by decide +kernel
theorem dX4_number_52 : decode cX4_number 52 = .ok (.aload_n 0, 1) := by decide +kernel
theorem dX4_number_53 : decode cX4_number 53 = .ok (.invokevirtual 33, 3) := by decide +kernel
theorem dX4_number_56 : decode cX4_number 56 = .ok (.iload_n 3, 1) := by decide +kernel
theorem dX4_number_57 : decode cX4_number 57 = .ok (.ireturn, 1) := by decide +kernel
theorem dX4_isWord_0 : decode cX4_isWord 0 = .ok (.aload_n 0, 1) := by decide +kernel
theorem dX4_isWord_1 : decode cX4_isWord 1 = .ok (.getfield 55, 3) := by decide +kernel
theorem dX4_isWord_4 : decode cX4_isWord 4 = .ok (.iconst 1, 1) := by decide +kernel
theorem dX4_isWord_5 : decode cX4_isWord 5 = .ok (.if_icmp .ne 19, 3) := by decide +kernel
theorem dX4_isWord_8 : decode cX4_isWord 8 = .ok (.aload_n 0, 1) := by decide +kernel
theorem dX4_isWord_9 : decode cX4_isWord 9 = .ok (.getfield 27, 3) := by decide +kernel
theorem dX4_isWord_12 : decode cX4_isWord 12 = .ok (.aload_n 0, 1) := by decide +kernel
theorem dX4_isWord_13 : decode cX4_isWord 13 = .ok (.getfield 19, 3) := by decide +kernel
theorem dX4_isWord_16 : decode cX4_isWord 16 = .ok (.isub, 1) := by decide +kernel
theorem dX4_isWord_17 : decode cX4_isWord 17 = .ok (.aload_n 1, 1) := by decide +kernel
theorem dX4_isWord_18 : decode cX4_isWord 18 = .ok (.invokevirtual 86, 3) := by decide +kernel
theorem dX4_isWord_21 : decode cX4_isWord 21 = .ok (.if_icmp .eq 5, 3) := by decide +kernel
theorem dX4_isWord_24 : decode cX4_isWord 24 = .ok (.iconst 0, 1) := by decide +kernel
theorem dX4_isWord_25 : decode cX4_isWord 25 = .ok (.ireturn, 1) := by decide +kernel
theorem dX4_isWord_26 : decode cX4_isWord 26 = .ok (.iconst 0, 1) := by decide +kernel
theorem dX4_isWord_27 : decode cX4_isWord 27 = .ok (.istore_n 2, 1) := by decide +kernel
theorem dX4_isWord_28 : decode cX4_isWord 28 = .ok (.iload_n 2, 1) := by decide +kernel
theorem dX4_isWord_29 : decode cX4_isWord 29 = .ok (.aload_n 1, 1) := by decide +kernel
theorem dX4_isWord_30 : decode cX4_isWord 30 = .ok (.invokevirtual 86, 3) := by decide +kernel
theorem dX4_isWord_33 : decode cX4_isWord 33 = .ok (.if_icmp .ge 29, 3) := by decide +kernel
theorem dX4_isWord_36 : decode cX4_isWord 36 = .ok (.aload_n 0, 1) := by decide +kernel
theorem dX4_isWord_37 : decode cX4_isWord 37 = .ok (.aload_n 0, 1) := by decide +kernel
theorem dX4_isWord_38 : decode cX4_isWord 38 = .ok (.getfield 19, 3) := by decide +kernel
theorem dX4_isWord_41 : decode cX4_isWord 41 = .ok (.iload_n 2, 1) := by decide +kernel
theorem dX4_isWord_42 : decode cX4_isWord 42 = .ok (.iadd, 1) := by decide +kernel
theorem dX4_isWord_43 : decode cX4_isWord 43 = .ok (.invokevirtual 91, 3) := by decide +kernel
theorem dX4_isWord_46 : decode cX4_isWord 46 = .ok (.aload_n 1, 1) := by decide +kernel
theorem dX4_isWord_47 : decode cX4_isWord 47 = .ok (.iload_n 2, 1) := by decide +kernel
theorem dX4_isWord_48 : decode cX4_isWord 48 = .ok (.invokevirtual 95, 3) := by decide +kernel
theorem dX4_isWord_51 : decode cX4_isWord 51 = .ok (.if_icmp .eq 5, 3) := by decide +kernel
theorem dX4_isWord_54 : decode cX4_isWord 54 = .ok (.iconst 0, 1) := by decide +kernel
theorem dX4_isWord_55 : decode cX4_isWord 55 = .ok (.ireturn, 1) := by decide +kernel
theorem dX4_isWord_56 : decode cX4_isWord 56 = .ok (.iinc 2 1, 3) := by decide +kernel
theorem dX4_isWord_59 : decode cX4_isWord 59 = .ok (.goto (-31), 3) := by decide +kernel
theorem dX4_isWord_62 : decode cX4_isWord 62 = .ok (.iconst 1, 1) := by decide +kernel
theorem dX4_isWord_63 : decode cX4_isWord 63 = .ok (.ireturn, 1) := by decide +kernel
theorem dX4_byteAt_0 : decode cX4_byteAt 0 = .ok (.iload_n 1, 1) := by decide +kernel
theorem dX4_byteAt_1 : decode cX4_byteAt 1 = .ok (.ifCond .lt 20, 3) := by decide +kernel
theorem dX4_byteAt_4 : decode cX4_byteAt 4 = .ok (.iload_n 1, 1) := by decide +kernel
theorem dX4_byteAt_5 : decode cX4_byteAt 5 = .ok (.aload_n 0, 1) := by decide +kernel
theorem dX4_byteAt_6 : decode cX4_byteAt 6 = .ok (.getfield 13, 3) := by decide +kernel
theorem dX4_byteAt_9 : decode cX4_byteAt 9 = .ok (.if_icmp .ge 12, 3) := by decide +kernel
theorem dX4_byteAt_12 : decode cX4_byteAt 12 = .ok (.aload_n 0, 1) := by decide +kernel
theorem dX4_byteAt_13 : decode cX4_byteAt 13 = .ok (.getfield 9, 3) := by decide +kernel
theorem dX4_byteAt_16 : decode cX4_byteAt 16 = .ok (.iload_n 1, 1) := by decide +kernel
theorem dX4_byteAt_17 : decode cX4_byteAt 17 = .ok (.iaload, 1) := by decide +kernel
theorem dX4_byteAt_18 : decode cX4_byteAt 18 = .ok (.goto 4, 3) := by decide +kernel
theorem dX4_byteAt_21 : decode cX4_byteAt 21 = .ok (.iconst (-1), 1) := by decide +kernel
theorem dX4_byteAt_22 : decode cX4_byteAt 22 = .ok (.ireturn, 1) := by decide +kernel
theorem dX4_isBlank_0 : decode cX4_isBlank 0 = .ok (.iload_n 0, 1) := by decide +kernel
theorem dX4_isBlank_1 : decode cX4_isBlank 1 = .ok (.bipush 32, 2) := by decide +kernel
theorem dX4_isBlank_3 : decode cX4_isBlank 3 = .ok (.if_icmp .eq 9, 3) := by decide +kernel
theorem dX4_isBlank_6 : decode cX4_isBlank 6 = .ok (.iload_n 0, 1) := by decide +kernel
theorem dX4_isBlank_7 : decode cX4_isBlank 7 = .ok (.bipush 10, 2) := by decide +kernel
theorem dX4_isBlank_9 : decode cX4_isBlank 9 = .ok (.if_icmp .ne 7, 3) := by decide +kernel
theorem dX4_isBlank_12 : decode cX4_isBlank 12 = .ok (.iconst 1, 1) := by decide +kernel
theorem dX4_isBlank_13 : decode cX4_isBlank 13 = .ok (.goto 4, 3) := by decide +kernel
theorem dX4_isBlank_16 : decode cX4_isBlank 16 = .ok (.iconst 0, 1) := by decide +kernel
theorem dX4_isBlank_17 : decode cX4_isBlank 17 = .ok (.ireturn, 1) := by decide +kernel
theorem dX4_isLetter_0 : decode cX4_isLetter 0 = .ok (.iload_n 0, 1) := by decide +kernel
theorem dX4_isLetter_1 : decode cX4_isLetter 1 = .ok (.bipush 97, 2) := by decide +kernel
theorem dX4_isLetter_3 : decode cX4_isLetter 3 = .ok (.if_icmp .lt 13, 3) := by decide +kernel
theorem dX4_isLetter_6 : decode cX4_isLetter 6 = .ok (.iload_n 0, 1) := by decide +kernel
theorem dX4_isLetter_7 : decode cX4_isLetter 7 = .ok (.bipush 122, 2) := by decide +kernel
theorem dX4_isLetter_9 : decode cX4_isLetter 9 = .ok (.if_icmp .gt 7, 3) := by decide +kernel
theorem dX4_isLetter_12 : decode cX4_isLetter 12 = .ok (.iconst 1, 1) := by decide +kernel
theorem dX4_isLetter_13 : decode cX4_isLetter 13 = .ok (.goto 4, 3) := by decide +kernel
theorem dX4_isLetter_16 : decode cX4_isLetter 16 = .ok (.iconst 0, 1) := by decide +kernel
theorem dX4_isLetter_17 : decode cX4_isLetter 17 = .ok (.ireturn, 1) := by decide +kernel
theorem dX4_isFigure_0 : decode cX4_isFigure 0 = .ok (.iload_n 0, 1) := by decide +kernel
theorem dX4_isFigure_1 : decode cX4_isFigure 1 = .ok (.bipush 48, 2) := by decide +kernel
theorem dX4_isFigure_3 : decode cX4_isFigure 3 = .ok (.if_icmp .lt 13, 3) := by decide +kernel
theorem dX4_isFigure_6 : decode cX4_isFigure 6 = .ok (.iload_n 0, 1) := by decide +kernel
theorem dX4_isFigure_7 : decode cX4_isFigure 7 = .ok (.bipush 57, 2) := by decide +kernel
theorem dX4_isFigure_9 : decode cX4_isFigure 9 = .ok (.if_icmp .gt 7, 3) := by decide +kernel
theorem dX4_isFigure_12 : decode cX4_isFigure 12 = .ok (.iconst 1, 1) := by decide +kernel
theorem dX4_isFigure_13 : decode cX4_isFigure 13 = .ok (.goto 4, 3) := by decide +kernel
theorem dX4_isFigure_16 : decode cX4_isFigure 16 = .ok (.iconst 0, 1) := by decide +kernel
theorem dX4_isFigure_17 : decode cX4_isFigure 17 = .ok (.ireturn, 1) := by decide +kernel
theorem dX4_advance_0 : decode cX4_advance 0 = .ok (.aload_n 0, 1) := by decide +kernel
theorem dX4_advance_1 : decode cX4_advance 1 = .ok (.getfield 27, 3) := by decide +kernel
theorem dX4_advance_4 : decode cX4_advance 4 = .ok (.aload_n 0, 1) := by decide +kernel
theorem dX4_advance_5 : decode cX4_advance 5 = .ok (.getfield 13, 3) := by decide +kernel
theorem dX4_advance_8 : decode cX4_advance 8 = .ok (.if_icmp .ge 30, 3) := by decide +kernel
theorem dX4_advance_11 : decode cX4_advance 11 = .ok (.aload_n 0, 1) := by decide +kernel
theorem dX4_advance_12 : decode cX4_advance 12 = .ok (.aload_n 0, 1) := by decide +kernel
theorem dX4_advance_13 : decode cX4_advance 13 = .ok (.getfield 27, 3) := by decide +kernel
theorem dX4_advance_16 : decode cX4_advance 16 = .ok (.invokevirtual 91, 3) := by decide +kernel
theorem dX4_advance_19 : decode cX4_advance 19 = .ok (.invokestatic 99, 3) := by decide +kernel
theorem dX4_advance_22 : decode cX4_advance 22 = .ok (.ifCond .eq 16, 3) := by decide +kernel
theorem dX4_advance_25 : decode cX4_advance 25 = .ok (.aload_n 0, 1) := by decide +kernel
theorem dX4_advance_26 : decode cX4_advance 26 = .ok (.dup, 1) := by decide +kernel
theorem dX4_advance_27 : decode cX4_advance 27 = .ok (.getfield 27, 3) := by decide +kernel
theorem dX4_advance_30 : decode cX4_advance 30 = .ok (.iconst 1, 1) := by decide +kernel
theorem dX4_advance_31 : decode cX4_advance 31 = .ok (.iadd, 1) := by decide +kernel
theorem dX4_advance_32 : decode cX4_advance 32 = .ok (.putfield 27, 3) := by decide +kernel
theorem dX4_advance_35 : decode cX4_advance 35 = .ok (.goto (-35), 3) := by decide +kernel
theorem dX4_advance_38 : decode cX4_advance 38 = .ok (.aload_n 0, 1) := by decide +kernel
theorem dX4_advance_39 : decode cX4_advance 39 = .ok (.aload_n 0, 1) := by decide +kernel
theorem dX4_advance_40 : decode cX4_advance 40 = .ok (.getfield 27, 3) := by decide +kernel
theorem dX4_advance_43 : decode cX4_advance 43 = .ok (.putfield 19, 3) := by decide +kernel
theorem dX4_advance_46 : decode cX4_advance 46 = .ok (.aload_n 0, 1) := by decide +kernel
theorem dX4_advance_47 : decode cX4_advance 47 = .ok (.aload_n 0, 1) := by decide +kernel
theorem dX4_advance_48 : decode cX4_advance 48 = .ok (.getfield 27, 3) := by decide +kernel
theorem dX4_advance_51 : decode cX4_advance 51 = .ok (.invokevirtual 91, 3) := by decide +kernel
theorem dX4_advance_54 : decode cX4_advance 54 = .ok (.istore_n 1, 1) := by decide +kernel
theorem dX4_advance_55 : decode cX4_advance 55 = .ok (.aload_n 0, 1) := by decide +kernel
theorem dX4_advance_56 : decode cX4_advance 56 = .ok (.getfield 27, 3) := by decide +kernel
theorem dX4_advance_59 : decode cX4_advance 59 = .ok (.aload_n 0, 1) := by decide +kernel
theorem dX4_advance_60 : decode cX4_advance 60 = .ok (.getfield 13, 3) := by decide +kernel
theorem dX4_advance_63 : decode cX4_advance 63 = .ok (.if_icmp .lt 11, 3) := by decide +kernel
theorem dX4_advance_66 : decode cX4_advance 66 = .ok (.aload_n 0, 1) := by decide +kernel
theorem dX4_advance_67 : decode cX4_advance 67 = .ok (.iconst 0, 1) := by decide +kernel
theorem dX4_advance_68 : decode cX4_advance 68 = .ok (.putfield 55, 3) := by decide +kernel
theorem dX4_advance_71 : decode cX4_advance 71 = .ok (.goto 56, 3) := by decide +kernel
theorem dX4_advance_74 : decode cX4_advance 74 = .ok (.iload_n 1, 1) := by decide +kernel
theorem dX4_advance_75 : decode cX4_advance 75 = .ok (.invokestatic 103, 3) := by decide +kernel
theorem dX4_advance_78 : decode cX4_advance 78 = .ok (.ifCond .eq 10, 3) := by decide +kernel
theorem dX4_advance_81 : decode cX4_advance 81 = .ok (.aload_n 0, 1) := by decide +kernel
theorem dX4_advance_82 : decode cX4_advance 82 = .ok (.invokevirtual 106, 3) := by decide +kernel
theorem dX4_advance_85 : decode cX4_advance 85 = .ok (.goto 42, 3) := by decide +kernel
theorem dX4_advance_88 : decode cX4_advance 88 = .ok (.iload_n 1, 1) := by decide +kernel
theorem dX4_advance_89 : decode cX4_advance 89 = .ok (.invokestatic 109, 3) := by decide +kernel
theorem dX4_advance_92 : decode cX4_advance 92 = .ok (.ifCond .eq 10, 3) := by decide +kernel
theorem dX4_advance_95 : decode cX4_advance 95 = .ok (.aload_n 0, 1) := by decide +kernel
theorem dX4_advance_96 : decode cX4_advance 96 = .ok (.invokevirtual 112, 3) := by decide +kernel
theorem dX4_advance_99 : decode cX4_advance 99 = .ok (.goto 28, 3) := by decide +kernel
theorem dX4_advance_102 : decode cX4_advance 102 = .ok (.aload_n 0, 1) := by decide +kernel
theorem dX4_advance_103 : decode cX4_advance 103 = .ok (.iload_n 1, 1) := by decide +kernel
theorem dX4_advance_104 : decode cX4_advance 104 = .ok (.bipush 59, 2) := by decide +kernel
theorem dX4_advance_106 : decode cX4_advance 106 = .ok (.if_icmp .ne 7, 3) := by decide +kernel
theorem dX4_advance_109 : decode cX4_advance 109 = .ok (.iconst 3, 1) := by decide +kernel
theorem dX4_advance_110 : decode cX4_advance 110 = .ok (.goto 4, 3) := by decide +kernel
theorem dX4_advance_113 : decode cX4_advance 113 = .ok (.iconst 4, 1) := by decide +kernel
theorem dX4_advance_114 : decode cX4_advance 114 = .ok (.putfield 55, 3) := by decide +kernel
theorem dX4_advance_117 : decode cX4_advance 117 = .ok (.aload_n 0, 1) := by decide +kernel
theorem dX4_advance_118 : decode cX4_advance 118 = .ok (.dup, 1) := by decide +kernel
theorem dX4_advance_119 : decode cX4_advance 119 = .ok (.getfield 27, 3) := by decide +kernel
theorem dX4_advance_122 : decode cX4_advance 122 = .ok (.iconst 1, 1) := by decide +kernel
theorem dX4_advance_123 : decode cX4_advance 123 = .ok (.iadd, 1) := by decide +kernel
theorem dX4_advance_124 : decode cX4_advance 124 = .ok (.putfield 27, 3) := by decide +kernel
theorem dX4_advance_127 : decode cX4_advance 127 = .ok (.return_, 1) := by decide +kernel
theorem dX4_passLetters_0 : decode cX4_passLetters 0 = .ok (.aload_n 0, 1) := by decide +kernel
theorem dX4_passLetters_1 : decode cX4_passLetters 1 = .ok (.getfield 27, 3) := by decide +kernel
theorem dX4_passLetters_4 : decode cX4_passLetters 4 = .ok (.aload_n 0, 1) := by decide +kernel
theorem dX4_passLetters_5 : decode cX4_passLetters 5 = .ok (.getfield 13, 3) := by decide +kernel
theorem dX4_passLetters_8 : decode cX4_passLetters 8 = .ok (.if_icmp .ge 30, 3) := by decide +kernel
theorem dX4_passLetters_11 : decode cX4_passLetters 11 = .ok (.aload_n 0, 1) := by decide +kernel
theorem dX4_passLetters_12 : decode cX4_passLetters 12 = .ok (.aload_n 0, 1) := by decide +kernel
theorem dX4_passLetters_13 : decode cX4_passLetters 13 = .ok (.getfield 27, 3) := by decide +kernel
theorem dX4_passLetters_16 : decode cX4_passLetters 16 = .ok (.invokevirtual 91, 3) := by decide +kernel
theorem dX4_passLetters_19 : decode cX4_passLetters 19 = .ok (.invokestatic 103, 3) := by decide +kernel
theorem dX4_passLetters_22 : decode cX4_passLetters 22 = .ok (.ifCond .eq 16, 3) := by decide +kernel
theorem dX4_passLetters_25 : decode cX4_passLetters 25 = .ok (.aload_n 0, 1) := by decide +kernel
theorem dX4_passLetters_26 : decode cX4_passLetters 26 = .ok (.dup, 1) := by decide +kernel
theorem dX4_passLetters_27 : decode cX4_passLetters 27 = .ok (.getfield 27, 3) := by decide +kernel
theorem dX4_passLetters_30 : decode cX4_passLetters 30 = .ok (.iconst 1, 1) := by decide +kernel
theorem dX4_passLetters_31 : decode cX4_passLetters 31 = .ok (.iadd, 1) := by decide +kernel
theorem dX4_passLetters_32 : decode cX4_passLetters 32 = .ok (.putfield 27, 3) := by decide +kernel
theorem dX4_passLetters_35 : decode cX4_passLetters 35 = .ok (.goto (-35), 3) := by decide +kernel
theorem dX4_passLetters_38 : decode cX4_passLetters 38 = .ok (.aload_n 0, 1) := by decide +kernel
theorem dX4_passLetters_39 : decode cX4_passLetters 39 = .ok (.iconst 1, 1) := by decide +kernel
theorem dX4_passLetters_40 : decode cX4_passLetters 40 = .ok (.putfield 55, 3) := by decide +kernel
theorem dX4_passLetters_43 : decode cX4_passLetters 43 = .ok (.return_, 1) := by decide +kernel
theorem dX4_passFigures_0 : decode cX4_passFigures 0 = .ok (.aload_n 0, 1) := by decide +kernel
theorem dX4_passFigures_1 : decode cX4_passFigures 1 = .ok (.iconst 0, 1) := by decide +kernel
theorem dX4_passFigures_2 : decode cX4_passFigures 2 = .ok (.putfield 83, 3) := by decide +kernel
theorem dX4_passFigures_5 : decode cX4_passFigures 5 = .ok (.aload_n 0, 1) := by decide +kernel
theorem dX4_passFigures_6 : decode cX4_passFigures 6 = .ok (.getfield 27, 3) := by decide +kernel
theorem dX4_passFigures_9 : decode cX4_passFigures 9 = .ok (.aload_n 0, 1) := by decide +kernel
theorem dX4_passFigures_10 : decode cX4_passFigures 10 = .ok (.getfield 13, 3) := by decide +kernel
theorem dX4_passFigures_13 : decode cX4_passFigures 13 = .ok (.if_icmp .ge 66, 3) := by decide +kernel
theorem dX4_passFigures_16 : decode cX4_passFigures 16 = .ok (.aload_n 0, 1) := by decide +kernel
theorem dX4_passFigures_17 : decode cX4_passFigures 17 = .ok (.aload_n 0, 1) := by decide +kernel
theorem dX4_passFigures_18 : decode cX4_passFigures 18 = .ok (.getfield 27, 3) := by decide +kernel
theorem dX4_passFigures_21 : decode cX4_passFigures 21 = .ok (.invokevirtual 91, 3) := by decide +kernel
theorem dX4_passFigures_24 : decode cX4_passFigures 24 = .ok (.invokestatic 109, 3) := by decide +kernel
theorem dX4_passFigures_27 : decode cX4_passFigures 27 = .ok (.ifCond .eq 52, 3) := by decide +kernel
theorem dX4_passFigures_30 : decode cX4_passFigures 30 = .ok (.aload_n 0, 1) := by decide +kernel
theorem dX4_passFigures_31 : decode cX4_passFigures 31 = .ok (.getfield 27, 3) := by decide +kernel
theorem dX4_passFigures_34 : decode cX4_passFigures 34 = .ok (.aload_n 0, 1) := by decide +kernel
theorem dX4_passFigures_35 : decode cX4_passFigures 35 = .ok (.getfield 19, 3) := by decide +kernel
theorem dX4_passFigures_38 : decode cX4_passFigures 38 = .ok (.isub, 1) := by decide +kernel
theorem dX4_passFigures_39 : decode cX4_passFigures 39 = .ok (.iconst 3, 1) := by decide +kernel
theorem dX4_passFigures_40 : decode cX4_passFigures 40 = .ok (.if_icmp .ge 26, 3) := by decide +kernel
theorem dX4_passFigures_43 : decode cX4_passFigures 43 = .ok (.aload_n 0, 1) := by decide +kernel
theorem dX4_passFigures_44 : decode cX4_passFigures 44 = .ok (.aload_n 0, 1) := by decide +kernel
theorem dX4_passFigures_45 : decode cX4_passFigures 45 = .ok (.getfield 83, 3) := by decide +kernel
theorem dX4_passFigures_48 : decode cX4_passFigures 48 = .ok (.bipush 10, 2) := by decide +kernel
theorem dX4_passFigures_50 : decode cX4_passFigures 50 = .ok (.imul, 1) := by decide +kernel
theorem dX4_passFigures_51 : decode cX4_passFigures 51 = .ok (.aload_n 0, 1) := by decide +kernel
theorem dX4_passFigures_52 : decode cX4_passFigures 52 = .ok (.aload_n 0, 1) := by decide +kernel
theorem dX4_passFigures_53 : decode cX4_passFigures 53 = .ok (.getfield 27, 3) := by decide +kernel
theorem dX4_passFigures_56 : decode cX4_passFigures 56 = .ok (.invokevirtual 91, 3) := by decide +kernel
theorem dX4_passFigures_59 : decode cX4_passFigures 59 = .ok (.iadd, 1) := by decide +kernel
theorem dX4_passFigures_60 : decode cX4_passFigures 60 = .ok (.bipush 48, 2) := by decide +kernel
theorem dX4_passFigures_62 : decode cX4_passFigures 62 = .ok (.isub, 1) := by decide +kernel
theorem dX4_passFigures_63 : decode cX4_passFigures 63 = .ok (.putfield 83, 3) := by decide +kernel
theorem dX4_passFigures_66 : decode cX4_passFigures 66 = .ok (.aload_n 0, 1) := by decide +kernel
theorem dX4_passFigures_67 : decode cX4_passFigures 67 = .ok (.dup, 1) := by decide +kernel
theorem dX4_passFigures_68 : decode cX4_passFigures 68 = .ok (.getfield 27, 3) := by decide +kernel
theorem dX4_passFigures_71 : decode cX4_passFigures 71 = .ok (.iconst 1, 1) := by decide +kernel
theorem dX4_passFigures_72 : decode cX4_passFigures 72 = .ok (.iadd, 1) := by decide +kernel
theorem dX4_passFigures_73 : decode cX4_passFigures 73 = .ok (.putfield 27, 3) := by decide +kernel
theorem dX4_passFigures_76 : decode cX4_passFigures 76 = .ok (.goto (-71), 3) := by decide +kernel
theorem dX4_passFigures_79 : decode cX4_passFigures 79 = .ok (.aload_n 0, 1) := by decide +kernel
theorem dX4_passFigures_80 : decode cX4_passFigures 80 = .ok (.aload_n 0, 1) := by decide +kernel
theorem dX4_passFigures_81 : decode cX4_passFigures 81 = .ok (.getfield 27, 3) := by decide +kernel
theorem dX4_passFigures_84 : decode cX4_passFigures 84 = .ok (.aload_n 0, 1) := by decide +kernel
theorem dX4_passFigures_85 : decode cX4_passFigures 85 = .ok (.getfield 19, 3) := by decide +kernel
theorem dX4_passFigures_88 : decode cX4_passFigures 88 = .ok (.isub, 1) := by decide +kernel
theorem dX4_passFigures_89 : decode cX4_passFigures 89 = .ok (.iconst 3, 1) := by decide +kernel
theorem dX4_passFigures_90 : decode cX4_passFigures 90 = .ok (.if_icmp .gt 7, 3) := by decide +kernel
theorem dX4_passFigures_93 : decode cX4_passFigures 93 = .ok (.iconst 2, 1) := by decide +kernel
theorem dX4_passFigures_94 : decode cX4_passFigures 94 = .ok (.goto 4, 3) := by decide +kernel
theorem dX4_passFigures_97 : decode cX4_passFigures 97 = .ok (.iconst 4, 1) := by decide +kernel
theorem dX4_passFigures_98 : decode cX4_passFigures 98 = .ok (.putfield 55, 3) := by decide +kernel
theorem dX4_passFigures_101 : decode cX4_passFigures 101 = .ok (.return_, 1) := by decide +kernel
theorem dX5_init_0 : decode cX5_init 0 = .ok (.aload_n 0, 1) := by decide +kernel
theorem dX5_init_1 : decode cX5_init 1 = .ok (.invokespecial 3, 3) := by decide +kernel
theorem dX5_init_4 : decode cX5_init 4 = .ok (.aload_n 0, 1) := by decide +kernel
theorem dX5_init_5 : decode cX5_init 5 = .ok (.bipush 8, 2) := by decide +kernel
theorem dX5_init_7 : decode cX5_init 7 = .ok (.newarray .int, 2) := by decide +kernel
theorem dX5_init_9 : decode cX5_init 9 = .ok (.putfield 11, 3) := by decide +kernel
theorem dX5_init_12 : decode cX5_init 12 = .ok (.aload_n 0, 1) := by decide +kernel
theorem dX5_init_13 : decode cX5_init 13 = .ok (.bipush 8, 2) := by decide +kernel
theorem dX5_init_15 : decode cX5_init 15 = .ok (.newarray .int, 2) := by decide +kernel
theorem dX5_init_17 : decode cX5_init 17 = .ok (.putfield 15, 3) := by decide +kernel
theorem dX5_init_20 : decode cX5_init 20 = .ok (.aload_n 0, 1) := by decide +kernel
theorem dX5_init_21 : decode cX5_init 21 = .ok (.sipush 320, 3) := by decide +kernel
theorem dX5_init_24 : decode cX5_init 24 = .ok (.newarray .int, 2) := by decide +kernel
theorem dX5_init_26 : decode cX5_init 26 = .ok (.putfield 18, 3) := by decide +kernel
theorem dX5_init_29 : decode cX5_init 29 = .ok (.iconst 0, 1) := by decide +kernel
theorem dX5_init_30 : decode cX5_init 30 = .ok (.istore_n 1, 1) := by decide +kernel
theorem dX5_init_31 : decode cX5_init 31 = .ok (.iload_n 1, 1) := by decide +kernel
theorem dX5_init_32 : decode cX5_init 32 = .ok (.bipush 8, 2) := by decide +kernel
theorem dX5_init_34 : decode cX5_init 34 = .ok (.if_icmp .ge 16, 3) := by decide +kernel
theorem dX5_init_37 : decode cX5_init 37 = .ok (.aload_n 0, 1) := by decide +kernel
theorem dX5_init_38 : decode cX5_init 38 = .ok (.getfield 11, 3) := by decide +kernel
theorem dX5_init_41 : decode cX5_init 41 = .ok (.iload_n 1, 1) := by decide +kernel
theorem dX5_init_42 : decode cX5_init 42 = .ok (.iconst (-1), 1) := by decide +kernel
theorem dX5_init_43 : decode cX5_init 43 = .ok (.iastore, 1) := by decide +kernel
theorem dX5_init_44 : decode cX5_init 44 = .ok (.iinc 1 1, 3) := by decide +kernel
theorem dX5_init_47 : decode cX5_init 47 = .ok (.goto (-16), 3) := by decide +kernel
theorem dX5_init_50 : decode cX5_init 50 = .ok (.return_, 1) := by decide +kernel
theorem dX5_isNumber_0 : decode cX5_isNumber 0 = .ok (.iload_n 1, 1) := by decide +kernel
theorem dX5_isNumber_1 : decode cX5_isNumber 1 = .ok (.ifCond .lt 13, 3) := by decide +kernel
theorem dX5_isNumber_4 : decode cX5_isNumber 4 = .ok (.iload_n 1, 1) := by decide +kernel
theorem dX5_isNumber_5 : decode cX5_isNumber 5 = .ok (.bipush 8, 2) := by decide +kernel
theorem dX5_isNumber_7 : decode cX5_isNumber 7 = .ok (.if_icmp .ge 7, 3) := by decide +kernel
theorem dX5_isNumber_10 : decode cX5_isNumber 10 = .ok (.iconst 1, 1) := by decide +kernel
theorem dX5_isNumber_11 : decode cX5_isNumber 11 = .ok (.goto 4, 3) := by decide +kernel
theorem dX5_isNumber_14 : decode cX5_isNumber 14 = .ok (.iconst 0, 1) := by decide +kernel
theorem dX5_isNumber_15 : decode cX5_isNumber 15 = .ok (.ireturn, 1) := by decide +kernel
theorem dX5_isMissing_0 : decode cX5_isMissing 0 = .ok (.aload_n 0, 1) := by decide +kernel
theorem dX5_isMissing_1 : decode cX5_isMissing 1 = .ok (.iload_n 1, 1) := by decide +kernel
theorem dX5_isMissing_2 : decode cX5_isMissing 2 = .ok (.invokevirtual 21, 3) := by decide +kernel
theorem dX5_isMissing_5 : decode cX5_isMissing 5 = .ok (.ifCond .eq 13, 3) := by decide +kernel
theorem dX5_isMissing_8 : decode cX5_isMissing 8 = .ok (.aload_n 0, 1) := by decide +kernel
theorem dX5_isMissing_9 : decode cX5_isMissing 9 = .ok (.getfield 11, 3) := by decide +kernel
theorem dX5_isMissing_12 : decode cX5_isMissing 12 = .ok (.iload_n 1, 1) := by decide +kernel
theorem dX5_isMissing_13 : decode cX5_isMissing 13 = .ok (.iaload, 1) := by decide +kernel
theorem dX5_isMissing_14 : decode cX5_isMissing 14 = .ok (.iconst (-1), 1) := by decide +kernel
theorem dX5_isMissing_15 : decode cX5_isMissing 15 = .ok (.if_icmp .ne 7, 3) := by decide +kernel
theorem dX5_isMissing_18 : decode cX5_isMissing 18 = .ok (.iconst 1, 1) := by decide +kernel
theorem dX5_isMissing_19 : decode cX5_isMissing 19 = .ok (.goto 4, 3) := by decide +kernel
theorem dX5_isMissing_22 : decode cX5_isMissing 22 = .ok (.iconst 0, 1) := by decide +kernel
theorem dX5_isMissing_23 : decode cX5_isMissing 23 = .ok (.ireturn, 1) := by decide +kernel
theorem dX5_laneOf_0 : decode cX5_laneOf 0 = .ok (.aload_n 0, 1) := by decide +kernel
theorem dX5_laneOf_1 : decode cX5_laneOf 1 = .ok (.iload_n 1, 1) := by decide +kernel
theorem dX5_laneOf_2 : decode cX5_laneOf 2 = .ok (.invokevirtual 21, 3) := by decide +kernel
theorem dX5_laneOf_5 : decode cX5_laneOf 5 = .ok (.ifCond .eq 12, 3) := by decide +kernel
theorem dX5_laneOf_8 : decode cX5_laneOf 8 = .ok (.aload_n 0, 1) := by decide +kernel
theorem dX5_laneOf_9 : decode cX5_laneOf 9 = .ok (.getfield 11, 3) := by decide +kernel
theorem dX5_laneOf_12 : decode cX5_laneOf 12 = .ok (.iload_n 1, 1) := by decide +kernel
theorem dX5_laneOf_13 : decode cX5_laneOf 13 = .ok (.iaload, 1) := by decide +kernel
theorem dX5_laneOf_14 : decode cX5_laneOf 14 = .ok (.goto 4, 3) := by decide +kernel
theorem dX5_laneOf_17 : decode cX5_laneOf 17 = .ok (.iconst (-1), 1) := by decide +kernel
theorem dX5_laneOf_18 : decode cX5_laneOf 18 = .ok (.ireturn, 1) := by decide +kernel
theorem dX5_sizeOf_0 : decode cX5_sizeOf 0 = .ok (.aload_n 0, 1) := by decide +kernel
theorem dX5_sizeOf_1 : decode cX5_sizeOf 1 = .ok (.iload_n 1, 1) := by decide +kernel
theorem dX5_sizeOf_2 : decode cX5_sizeOf 2 = .ok (.invokevirtual 25, 3) := by decide +kernel
theorem dX5_sizeOf_5 : decode cX5_sizeOf 5 = .ok (.ifCond .eq 7, 3) := by decide +kernel
theorem dX5_sizeOf_8 : decode cX5_sizeOf 8 = .ok (.iconst 0, 1) := by decide +kernel
theorem dX5_sizeOf_9 : decode cX5_sizeOf 9 = .ok (.goto 9, 3) := by decide +kernel
theorem dX5_sizeOf_12 : decode cX5_sizeOf 12 = .ok (.aload_n 0, 1) := by decide +kernel
theorem dX5_sizeOf_13 : decode cX5_sizeOf 13 = .ok (.getfield 15, 3) := by decide +kernel
theorem dX5_sizeOf_16 : decode cX5_sizeOf 16 = .ok (.iload_n 1, 1) := by decide +kernel
theorem dX5_sizeOf_17 : decode cX5_sizeOf 17 = .ok (.iaload, 1) := by decide +kernel
theorem dX5_sizeOf_18 : decode cX5_sizeOf 18 = .ok (.ireturn, 1) := by decide +kernel
theorem dX5_item_0 : decode cX5_item 0 = .ok (.iload_n 2, 1) := by decide +kernel
theorem dX5_item_1 : decode cX5_item 1 = .ok (.ifCond .lt 26, 3) := by decide +kernel
theorem dX5_item_4 : decode cX5_item 4 = .ok (.iload_n 2, 1) := by decide +kernel
theorem dX5_item_5 : decode cX5_item 5 = .ok (.aload_n 0, 1) := by decide +kernel
theorem dX5_item_6 : decode cX5_item 6 = .ok (.iload_n 1, 1) := by decide +kernel
theorem dX5_item_7 : decode cX5_item 7 = .ok (.invokevirtual 28, 3) := by decide +kernel
theorem dX5_item_10 : decode cX5_item 10 = .ok (.if_icmp .ge 17, 3) := by decide +kernel
theorem dX5_item_13 : decode cX5_item 13 = .ok (.aload_n 0, 1) := by decide +kernel
theorem dX5_item_14 : decode cX5_item 14 = .ok (.getfield 18, 3) := by decide +kernel
theorem dX5_item_17 : decode cX5_item 17 = .ok (.iload_n 1, 1) := by decide +kernel
theorem dX5_item_18 : decode cX5_item 18 = .ok (.bipush 40, 2) := by decide +kernel
theorem dX5_item_20 : decode cX5_item 20 = .ok (.imul, 1) := by decide +kernel
theorem dX5_item_21 : decode cX5_item 21 = .ok (.iload_n 2, 1) := by decide +kernel
theorem dX5_item_22 : decode cX5_item 22 = .ok (.iadd, 1) := by decide +kernel
theorem dX5_item_23 : decode cX5_item 23 = .ok (.iaload, 1) := by decide +kernel
theorem dX5_item_24 : decode cX5_item 24 = .ok (.goto 5, 3) := by decide +kernel
theorem dX5_item_27 : decode cX5_item 27 = .ok (.ldc 32, 2) := by decide +kernel
theorem dX5_item_29 : decode cX5_item 29 = .ok (.ireturn, 1) := by decide +kernel
theorem dX5_hasRange_0 : decode cX5_hasRange 0 = .ok (.aload_n 0, 1) := by decide +kernel
theorem dX5_hasRange_1 : decode cX5_hasRange 1 = .ok (.iload_n 1, 1) := by decide +kernel
theorem dX5_hasRange_2 : decode cX5_hasRange 2 = .ok (.invokevirtual 28, 3) := by decide +kernel
theorem dX5_hasRange_5 : decode cX5_hasRange 5 = .ok (.istore 4, 2) := by decide +kernel
theorem dX5_hasRange_7 : decode cX5_hasRange 7 = .ok (.iload_n 3, 1) := by decide +kernel
theorem dX5_hasRange_8 : decode cX5_hasRange 8 = .ok (.ifCond .lt 25, 3) := by decide +kernel
theorem dX5_hasRange_11 : decode cX5_hasRange 11 = .ok (.iload_n 3, 1) := by decide +kernel
theorem dX5_hasRange_12 : decode cX5_hasRange 12 = .ok (.iload 4, 2) := by decide +kernel
theorem dX5_hasRange_14 : decode cX5_hasRange 14 = .ok (.if_icmp .gt 19, 3) := by decide +kernel
theorem dX5_hasRange_17 : decode cX5_hasRange 17 = .ok (.iload_n 2, 1) := by decide +kernel
theorem dX5_hasRange_18 : decode cX5_hasRange 18 = .ok (.ifCond .lt 15, 3) := by decide +kernel
theorem dX5_hasRange_21 : decode cX5_hasRange 21 = .ok (.iload_n 2, 1) := by decide +kernel
theorem dX5_hasRange_22 : decode cX5_hasRange 22 = .ok (.iload 4, 2) := by decide +kernel
theorem dX5_hasRange_24 : decode cX5_hasRange 24 = .ok (.iload_n 3, 1) := by decide +kernel
theorem dX5_hasRange_25 : decode cX5_hasRange 25 = .ok (.isub, 1) := by decide +kernel
theorem dX5_hasRange_26 : decode cX5_hasRange 26 = .ok (.if_icmp .gt 7, 3) := by decide +kernel
theorem dX5_hasRange_29 : decode cX5_hasRange 29 = .ok (.iconst 1, 1) := by decide +kernel
theorem dX5_hasRange_30 : decode cX5_hasRange 30 = .ok (.goto 4, 3) := by decide +kernel
theorem dX5_hasRange_33 : decode cX5_hasRange 33 = .ok (.iconst 0, 1) := by decide +kernel
theorem dX5_hasRange_34 : decode cX5_hasRange 34 = .ok (.ireturn, 1) := by decide +kernel
theorem dX5_make_0 : decode cX5_make 0 = .ok (.aload_n 0, 1) := by decide +kernel
theorem dX5_make_1 : decode cX5_make 1 = .ok (.iload_n 1, 1) := by decide +kernel
theorem dX5_make_2 : decode cX5_make 2 = .ok (.invokevirtual 21, 3) := by decide +kernel
theorem dX5_make_5 : decode cX5_make 5 = .ok (.ifCond .eq 13, 3) := by decide +kernel
theorem dX5_make_8 : decode cX5_make 8 = .ok (.iload_n 3, 1) := by decide +kernel
theorem dX5_make_9 : decode cX5_make 9 = .ok (.ifCond .lt 9, 3) := by decide +kernel
theorem dX5_make_12 : decode cX5_make 12 = .ok (.iload_n 3, 1) := by decide +kernel
theorem dX5_make_13 : decode cX5_make 13 = .ok (.bipush 40, 2) := by decide +kernel
theorem dX5_make_15 : decode cX5_make 15 = .ok (.if_icmp .le 4, 3) := by decide +kernel
theorem dX5_make_18 : decode cX5_make 18 = .ok (.return_, 1) := by decide +kernel
theorem dX5_make_19 : decode cX5_make 19 = .ok (.aload_n 0, 1) := by decide +kernel
theorem dX5_make_20 : decode cX5_make 20 = .ok (.getfield 11, 3) := by decide +kernel
theorem dX5_make_23 : decode cX5_make 23 = .ok (.iload_n 1, 1) := by decide +kernel
theorem dX5_make_24 : decode cX5_make 24 = .ok (.iload_n 2, 1) := by decide +kernel
theorem dX5_make_25 : decode cX5_make 25 = .ok (.iastore, 1) := by decide +kernel
theorem dX5_make_26 : decode cX5_make 26 = .ok (.aload_n 0, 1) := by decide +kernel
theorem dX5_make_27 : decode cX5_make 27 = .ok (.getfield 15, 3) := by decide +kernel
theorem dX5_make_30 : decode cX5_make 30 = .ok (.iload_n 1, 1) := by decide +kernel
theorem dX5_make_31 : decode cX5_make 31 = .ok (.iload_n 3, 1) := by decide +kernel
theorem dX5_make_32 : decode cX5_make 32 = .ok (.iastore, 1) := by decide +kernel
theorem dX5_make_33 : decode cX5_make 33 = .ok (.iconst 0, 1) := by decide +kernel
theorem dX5_make_34 : decode cX5_make 34 = .ok (.istore 4, 2) := by decide +kernel
theorem dX5_make_36 : decode cX5_make 36 = .ok (.iload 4, 2) := by decide +kernel
theorem dX5_make_38 : decode cX5_make 38 = .ok (.iload_n 3, 1) := by decide +kernel
theorem dX5_make_39 : decode cX5_make 39 = .ok (.if_icmp .ge 22, 3) := by decide +kernel
theorem dX5_make_42 : decode cX5_make 42 = .ok (.aload_n 0, 1) := by decide +kernel
theorem dX5_make_43 : decode cX5_make 43 = .ok (.getfield 18, 3) := by decide +kernel
theorem dX5_make_46 : decode cX5_make 46 = .ok (.iload_n 1, 1) := by decide +kernel
theorem dX5_make_47 : decode cX5_make 47 = .ok (.bipush 40, 2) := by decide +kernel
theorem dX5_make_49 : decode cX5_make 49 = .ok (.imul, 1) := by decide +kernel
theorem dX5_make_50 : decode cX5_make 50 = .ok (.iload 4, 2) := by decide +kernel
theorem dX5_make_52 : decode cX5_make 52 = .ok (.iadd, 1) := by decide +kernel
theorem dX5_make_53 : decode cX5_make 53 = .ok (.iconst 0, 1) := by decide +kernel
theorem dX5_make_54 : decode cX5_make 54 = .ok (.iastore, 1) := by decide +kernel
theorem dX5_make_55 : decode cX5_make 55 = .ok (.iinc 4 1, 3) := by decide +kernel
theorem dX5_make_58 : decode cX5_make 58 = .ok (.goto (-22), 3) := by decide +kernel
theorem dX5_make_61 : decode cX5_make 61 = .ok (.return_, 1) := by decide +kernel
theorem dX5_put_0 : decode cX5_put 0 = .ok (.iload_n 2, 1) := by decide +kernel
theorem dX5_put_1 : decode cX5_put 1 = .ok (.ifCond .lt 12, 3) := by decide +kernel
theorem dX5_put_4 : decode cX5_put 4 = .ok (.iload_n 2, 1) := by decide +kernel
theorem dX5_put_5 : decode cX5_put 5 = .ok (.aload_n 0, 1) := by decide +kernel
theorem dX5_put_6 : decode cX5_put 6 = .ok (.iload_n 1, 1) := by decide +kernel
theorem dX5_put_7 : decode cX5_put 7 = .ok (.invokevirtual 28, 3) := by decide +kernel
theorem dX5_put_10 : decode cX5_put 10 = .ok (.if_icmp .lt 6, 3) := by decide +kernel
theorem dX5_put_13 : decode cX5_put 13 = .ok (.ldc 32, 2) := by decide +kernel
theorem dX5_put_15 : decode cX5_put 15 = .ok (.ireturn, 1) := by decide +kernel
theorem dX5_put_16 : decode cX5_put 16 = .ok (.iload_n 3, 1) := by decide +kernel
theorem dX5_put_17 : decode cX5_put 17 = .ok (.istore 4, 2) := by decide +kernel
theorem dX5_put_19 : decode cX5_put 19 = .ok (.aload_n 0, 1) := by decide +kernel
theorem dX5_put_20 : decode cX5_put 20 = .ok (.getfield 11, 3) := by decide +kernel
theorem dX5_put_23 : decode cX5_put 23 = .ok (.iload_n 1, 1) := by decide +kernel
theorem dX5_put_24 : decode cX5_put 24 = .ok (.iaload, 1) := by decide +kernel
theorem dX5_put_25 : decode cX5_put 25 = .ok (.ifCond .ne 10, 3) := by decide +kernel
theorem dX5_put_28 : decode cX5_put 28 = .ok (.iload_n 3, 1) := by decide +kernel
theorem dX5_put_29 : decode cX5_put 29 = .ok (.i2b, 1) := by decide +kernel
theorem dX5_put_30 : decode cX5_put 30 = .ok (.istore 4, 2) := by decide +kernel
theorem dX5_put_32 : decode cX5_put 32 = .ok (.goto 17, 3) := by decide +kernel
theorem dX5_put_35 : decode cX5_put 35 = .ok (.aload_n 0, 1) := by decide +kernel
theorem dX5_put_36 : decode cX5_put 36 = .ok (.getfield 11, 3) := by decide +kernel
theorem dX5_put_39 : decode cX5_put 39 = .ok (.iload_n 1, 1) := by decide +kernel
theorem dX5_put_40 : decode cX5_put 40 = .ok (.iaload, 1) := by decide +kernel
theorem dX5_put_41 : decode cX5_put 41 = .ok (.iconst 1, 1) := by decide +kernel
theorem dX5_put_42 : decode cX5_put 42 = .ok (.if_icmp .ne 7, 3) := by decide +kernel
theorem dX5_put_45 : decode cX5_put 45 = .ok (.iload_n 3, 1) := by decide +kernel
theorem dX5_put_46 : decode cX5_put 46 = .ok (.i2s, 1) := by decide +kernel
theorem dX5_put_47 : decode cX5_put 47 = .ok (.istore 4, 2) := by decide +kernel
theorem dX5_put_49 : decode cX5_put 49 = .ok (.aload_n 0, 1) := by decide +kernel
theorem dX5_put_50 : decode cX5_put 50 = .ok (.getfield 18, 3) := by decide +kernel
theorem dX5_put_53 : decode cX5_put 53 = .ok (.iload_n 1, 1) := by decide +kernel
theorem dX5_put_54 : decode cX5_put 54 = .ok (.bipush 40, 2) := by decide +kernel
theorem dX5_put_56 : decode cX5_put 56 = .ok (.imul, 1) := by decide +kernel
theorem dX5_put_57 : decode cX5_put 57 = .ok (.iload_n 2, 1) := by decide +kernel
theorem dX5_put_58 : decode cX5_put 58 = .ok (.iadd, 1) := by decide +kernel
theorem dX5_put_59 : decode cX5_put 59 = .ok (.iload 4, 2) := by decide +kernel
theorem dX5_put_61 : decode cX5_put 61 = .ok (.iastore, 1) := by decide +kernel
theorem dX5_put_62 : decode cX5_put 62 = .ok (.iload 4, 2) := by decide +kernel
theorem dX5_put_64 : decode cX5_put 64 = .ok (.ireturn, 1) := by decide +kernel
theorem dX5_move_0 : decode cX5_move 0 = .ok (.aload_n 0, 1) := by decide +kernel
theorem dX5_move_1 : decode cX5_move 1 = .ok (.iload_n 1, 1) := by decide +kernel
theorem dX5_move_2 : decode cX5_move 2 = .ok (.iload_n 2, 1) := by decide +kernel
theorem dX5_move_3 : decode cX5_move 3 = .ok (.iload 5, 2) := by decide +kernel
theorem dX5_move_5 : decode cX5_move 5 = .ok (.invokevirtual 33, 3) := by decide +kernel
theorem dX5_move_8 : decode cX5_move 8 = .ok (.ifCond .eq 41, 3) := by decide +kernel
theorem dX5_move_11 : decode cX5_move 11 = .ok (.aload_n 0, 1) := by decide +kernel
theorem dX5_move_12 : decode cX5_move 12 = .ok (.iload_n 3, 1) := by decide +kernel
theorem dX5_move_13 : decode cX5_move 13 = .ok (.iload 4, 2) := by decide +kernel
theorem dX5_move_15 : decode cX5_move 15 = .ok (.iload 5, 2) := by decide +kernel
theorem dX5_move_17 : decode cX5_move 17 = .ok (.invokevirtual 33, 3) := by decide +kernel
theorem dX5_move_20 : decode cX5_move 20 = .ok (.ifCond .eq 29, 3) := by decide +kernel
theorem dX5_move_23 : decode cX5_move 23 = .ok (.aload_n 0, 1) := by decide +kernel
theorem dX5_move_24 : decode cX5_move 24 = .ok (.getfield 18, 3) := by decide +kernel
theorem dX5_move_27 : decode cX5_move 27 = .ok (.iload_n 1, 1) := by decide +kernel
theorem dX5_move_28 : decode cX5_move 28 = .ok (.bipush 40, 2) := by decide +kernel
theorem dX5_move_30 : decode cX5_move 30 = .ok (.imul, 1) := by decide +kernel
theorem dX5_move_31 : decode cX5_move 31 = .ok (.iload_n 2, 1) := by decide +kernel
theorem dX5_move_32 : decode cX5_move 32 = .ok (.iadd, 1) := by decide +kernel
theorem dX5_move_33 : decode cX5_move 33 = .ok (.aload_n 0, 1) := by decide +kernel
theorem dX5_move_34 : decode cX5_move 34 = .ok (.getfield 18, 3) := by decide +kernel
theorem dX5_move_37 : decode cX5_move 37 = .ok (.iload_n 3, 1) := by decide +kernel
theorem dX5_move_38 : decode cX5_move 38 = .ok (.bipush 40, 2) := by decide +kernel
theorem dX5_move_40 : decode cX5_move 40 = .ok (.imul, 1) := by decide +kernel
theorem dX5_move_41 : decode cX5_move 41 = .ok (.iload 4, 2) := by decide +kernel
theorem dX5_move_43 : decode cX5_move 43 = .ok (.iadd, 1) := by decide +kernel
theorem dX5_move_44 : decode cX5_move 44 = .ok (.iload 5, 2) := by decide +kernel
theorem dX5_move_46 : decode cX5_move 46 = .ok (.invokestatic 37, 3) := by decide +kernel
theorem dX5_move_49 : decode cX5_move 49 = .ok (.return_, 1) := by decide +kernel
theorem dX5_lose_0 : decode cX5_lose 0 = .ok (.aload_n 0, 1) := by decide +kernel
theorem dX5_lose_1 : decode cX5_lose 1 = .ok (.iload_n 1, 1) := by decide +kernel
theorem dX5_lose_2 : decode cX5_lose 2 = .ok (.invokevirtual 21, 3) := by decide +kernel
theorem dX5_lose_5 : decode cX5_lose 5 = .ok (.ifCond .eq 17, 3) := by decide +kernel
theorem dX5_lose_8 : decode cX5_lose 8 = .ok (.aload_n 0, 1) := by decide +kernel
theorem dX5_lose_9 : decode cX5_lose 9 = .ok (.getfield 11, 3) := by decide +kernel
theorem dX5_lose_12 : decode cX5_lose 12 = .ok (.iload_n 1, 1) := by decide +kernel
theorem dX5_lose_13 : decode cX5_lose 13 = .ok (.iconst (-1), 1) := by decide +kernel
theorem dX5_lose_14 : decode cX5_lose 14 = .ok (.iastore, 1) := by decide +kernel
theorem dX5_lose_15 : decode cX5_lose 15 = .ok (.aload_n 0, 1) := by decide +kernel
theorem dX5_lose_16 : decode cX5_lose 16 = .ok (.getfield 15, 3) := by decide +kernel
theorem dX5_lose_19 : decode cX5_lose 19 = .ok (.iload_n 1, 1) := by decide +kernel
theorem dX5_lose_20 : decode cX5_lose 20 = .ok (.iconst 0, 1) := by decide +kernel
theorem dX5_lose_21 : decode cX5_lose 21 = .ok (.iastore, 1) := by decide +kernel
theorem dX5_lose_22 : decode cX5_lose 22 = .ok (.return_, 1) := by decide +kernel
theorem dX5_there_0 : decode cX5_there 0 = .ok (.iconst 0, 1) := by decide +kernel
theorem dX5_there_1 : decode cX5_there 1 = .ok (.istore_n 1, 1) := by decide +kernel
theorem dX5_there_2 : decode cX5_there 2 = .ok (.iconst 0, 1) := by decide +kernel
theorem dX5_there_3 : decode cX5_there 3 = .ok (.istore_n 2, 1) := by decide +kernel
theorem dX5_there_4 : decode cX5_there 4 = .ok (.iload_n 2, 1) := by decide +kernel
theorem dX5_there_5 : decode cX5_there 5 = .ok (.bipush 8, 2) := by decide +kernel
theorem dX5_there_7 : decode cX5_there 7 = .ok (.if_icmp .ge 22, 3) := by decide +kernel
theorem dX5_there_10 : decode cX5_there 10 = .ok (.aload_n 0, 1) := by decide +kernel
theorem dX5_there_11 : decode cX5_there 11 = .ok (.getfield 11, 3) := by decide +kernel
theorem dX5_there_14 : decode cX5_there 14 = .ok (.iload_n 2, 1) := by decide +kernel
theorem dX5_there_15 : decode cX5_there 15 = .ok (.iaload, 1) := by decide +kernel
theorem dX5_there_16 : decode cX5_there 16 = .ok (.iconst (-1), 1) := by decide +kernel
theorem dX5_there_17 : decode cX5_there 17 = .ok (.if_icmp .eq 6, 3) := by decide +kernel
theorem dX5_there_20 : decode cX5_there 20 = .ok (.iinc 1 1, 3) := by decide +kernel
theorem dX5_there_23 : decode cX5_there 23 = .ok (.iinc 2 1, 3) := by decide +kernel
theorem dX5_there_26 : decode cX5_there 26 = .ok (.goto (-22), 3) := by decide +kernel
theorem dX5_there_29 : decode cX5_there 29 = .ok (.iload_n 1, 1) := by decide +kernel
theorem dX5_there_30 : decode cX5_there 30 = .ok (.ireturn, 1) := by decide +kernel
theorem dX6_init_0 : decode cX6_init 0 = .ok (.aload_n 0, 1) := by decide +kernel
theorem dX6_init_1 : decode cX6_init 1 = .ok (.invokespecial 1, 3) := by decide +kernel
theorem dX6_init_4 : decode cX6_init 4 = .ok (.aload_n 0, 1) := by decide +kernel
theorem dX6_init_5 : decode cX6_init 5 = .ok (.bipush 18, 2) := by decide +kernel
theorem dX6_init_7 : decode cX6_init 7 = .ok (.newarray .int, 2) := by decide +kernel
theorem dX6_init_9 : decode cX6_init 9 = .ok (.putfield 9, 3) := by decide +kernel
theorem dX6_init_12 : decode cX6_init 12 = .ok (.aload_n 0, 1) := by decide +kernel
theorem dX6_init_13 : decode cX6_init 13 = .ok (.bipush 18, 2) := by decide +kernel
theorem dX6_init_15 : decode cX6_init 15 = .ok (.newarray .int, 2) := by decide +kernel
theorem dX6_init_17 : decode cX6_init 17 = .ok (.putfield 13, 3) := by decide +kernel
theorem dX6_init_20 : decode cX6_init 20 = .ok (.aload_n 0, 1) := by decide +kernel
theorem dX6_init_21 : decode cX6_init 21 = .ok (.bipush 18, 2) := by decide +kernel
theorem dX6_init_23 : decode cX6_init 23 = .ok (.newarray .int, 2) := by decide +kernel
theorem dX6_init_25 : decode cX6_init 25 = .ok (.putfield 16, 3) := by decide +kernel
theorem dX6_init_28 : decode cX6_init 28 = .ok (.aload_n 0, 1) := by decide +kernel
theorem dX6_init_29 : decode cX6_init 29 = .ok (.bipush 6, 2) := by decide +kernel
theorem dX6_init_31 : decode cX6_init 31 = .ok (.newarray .int, 2) := by decide +kernel
theorem dX6_init_33 : decode cX6_init 33 = .ok (.putfield 19, 3) := by decide +kernel
theorem dX6_init_36 : decode cX6_init 36 = .ok (.aload_n 0, 1) := by decide +kernel
theorem dX6_init_37 : decode cX6_init 37 = .ok (.bipush 6, 2) := by decide +kernel
theorem dX6_init_39 : decode cX6_init 39 = .ok (.newarray .int, 2) := by decide +kernel
theorem dX6_init_41 : decode cX6_init 41 = .ok (.putfield 22, 3) := by decide +kernel
theorem dX6_init_44 : decode cX6_init 44 = .ok (.aload_n 0, 1) := by decide +kernel
theorem dX6_init_45 : decode cX6_init 45 = .ok (.bipush 6, 2) := by decide +kernel
theorem dX6_init_47 : decode cX6_init 47 = .ok (.newarray .int, 2) := by decide +kernel
theorem dX6_init_49 : decode cX6_init 49 = .ok (.putfield 25, 3) := by decide +kernel
theorem dX6_init_52 : decode cX6_init 52 = .ok (.aload_n 0, 1) := by decide +kernel
theorem dX6_init_53 : decode cX6_init 53 = .ok (.bipush 6, 2) := by decide +kernel
theorem dX6_init_55 : decode cX6_init 55 = .ok (.newarray .int, 2) := by decide +kernel
theorem dX6_init_57 : decode cX6_init 57 = .ok (.putfield 28, 3) := by decide +kernel
theorem dX6_init_60 : decode cX6_init 60 = .ok (.return_, 1) := by decide +kernel
theorem dX6_isOwner_0 : decode cX6_isOwner 0 = .ok (.iload_n 0, 1) := by decide +kernel
theorem dX6_isOwner_1 : decode cX6_isOwner 1 = .ok (.ifCond .lt 12, 3) := by decide +kernel
theorem dX6_isOwner_4 : decode cX6_isOwner 4 = .ok (.iload_n 0, 1) := by decide +kernel
theorem dX6_isOwner_5 : decode cX6_isOwner 5 = .ok (.iconst 5, 1) := by decide +kernel
theorem dX6_isOwner_6 : decode cX6_isOwner 6 = .ok (.if_icmp .ge 7, 3) := by decide +kernel
theorem dX6_isOwner_9 : decode cX6_isOwner 9 = .ok (.iconst 1, 1) := by decide +kernel
theorem dX6_isOwner_10 : decode cX6_isOwner 10 = .ok (.goto 4, 3) := by decide +kernel
theorem dX6_isOwner_13 : decode cX6_isOwner 13 = .ok (.iconst 0, 1) := by decide +kernel
theorem dX6_isOwner_14 : decode cX6_isOwner 14 = .ok (.ireturn, 1) := by decide +kernel
theorem dX6_isNone_0 : decode cX6_isNone 0 = .ok (.aload_n 0, 1) := by decide +kernel
theorem dX6_isNone_1 : decode cX6_isNone 1 = .ok (.getfield 31, 3) := by decide +kernel
theorem dX6_isNone_4 : decode cX6_isNone 4 = .ok (.ifCond .ne 7, 3) := by decide +kernel
theorem dX6_isNone_7 : decode cX6_isNone 7 = .ok (.iconst 1, 1) := by decide +kernel
theorem dX6_isNone_8 : decode cX6_isNone 8 = .ok (.goto 4, 3) := by decide +kernel
theorem dX6_isNone_11 : decode cX6_isNone 11 = .ok (.iconst 0, 1) := by decide +kernel
theorem dX6_isNone_12 : decode cX6_isNone 12 = .ok (.ireturn, 1) := by decide +kernel
theorem dX6_hasStep_0 : decode cX6_hasStep 0 = .ok (.iload_n 1, 1) := by decide +kernel
theorem dX6_hasStep_1 : decode cX6_hasStep 1 = .ok (.ifCond .lt 15, 3) := by decide +kernel
theorem dX6_hasStep_4 : decode cX6_hasStep 4 = .ok (.iload_n 1, 1) := by decide +kernel
theorem dX6_hasStep_5 : decode cX6_hasStep 5 = .ok (.aload_n 0, 1) := by decide +kernel
theorem dX6_hasStep_6 : decode cX6_hasStep 6 = .ok (.getfield 31, 3) := by decide +kernel
theorem dX6_hasStep_9 : decode cX6_hasStep 9 = .ok (.if_icmp .ge 7, 3) := by decide +kernel
theorem dX6_hasStep_12 : decode cX6_hasStep 12 = .ok (.iconst 1, 1) := by decide +kernel
theorem dX6_hasStep_13 : decode cX6_hasStep 13 = .ok (.goto 4, 3) := by decide +kernel
theorem dX6_hasStep_16 : decode cX6_hasStep 16 = .ok (.iconst 0, 1) := by decide +kernel
theorem dX6_hasStep_17 : decode cX6_hasStep 17 = .ok (.ireturn, 1) := by decide +kernel
theorem dX6_hasWalker_0 : decode cX6_hasWalker 0 = .ok (.iload_n 1, 1) := by decide +kernel
theorem dX6_hasWalker_1 : decode cX6_hasWalker 1 = .ok (.ifCond .lt 15, 3) := by decide +kernel
theorem dX6_hasWalker_4 : decode cX6_hasWalker 4 = .ok (.iload_n 1, 1) := by decide +kernel
theorem dX6_hasWalker_5 : decode cX6_hasWalker 5 = .ok (.aload_n 0, 1) := by decide +kernel
theorem dX6_hasWalker_6 : decode cX6_hasWalker 6 = .ok (.getfield 35, 3) := by decide +kernel
theorem dX6_hasWalker_9 : decode cX6_hasWalker 9 = .ok (.if_icmp .ge 7, 3) := by decide +kernel
theorem dX6_hasWalker_12 : decode cX6_hasWalker 12 = .ok (.iconst 1, 1) := by decide +kernel
theorem dX6_hasWalker_13 : decode cX6_hasWalker 13 = .ok (.goto 4, 3) := by decide +kernel
theorem dX6_hasWalker_16 : decode cX6_hasWalker 16 = .ok (.iconst 0, 1) := by decide +kernel
theorem dX6_hasWalker_17 : decode cX6_hasWalker 17 = .ok (.ireturn, 1) := by decide +kernel
theorem dX6_hasReach_0 : decode cX6_hasReach 0 = .ok (.iconst 0, 1) := by decide +kernel
theorem dX6_hasReach_1 : decode cX6_hasReach 1 = .ok (.istore_n 2, 1) := by decide +kernel
theorem dX6_hasReach_2 : decode cX6_hasReach 2 = .ok (.iload_n 2, 1) := by decide +kernel
theorem dX6_hasReach_3 : decode cX6_hasReach 3 = .ok (.aload_n 0, 1) := by decide +kernel
theorem dX6_hasReach_4 : decode cX6_hasReach 4 = .ok (.getfield 35, 3) := by decide +kernel
theorem dX6_hasReach_7 : decode cX6_hasReach 7 = .ok (.if_icmp .ge 21, 3) := by decide +kernel
theorem dX6_hasReach_10 : decode cX6_hasReach 10 = .ok (.aload_n 0, 1) := by decide +kernel
theorem dX6_hasReach_11 : decode cX6_hasReach 11 = .ok (.getfield 19, 3) := by decide +kernel
theorem dX6_hasReach_14 : decode cX6_hasReach 14 = .ok (.iload_n 2, 1) := by decide +kernel
theorem dX6_hasReach_15 : decode cX6_hasReach 15 = .ok (.iaload, 1) := by decide +kernel
theorem dX6_hasReach_16 : decode cX6_hasReach 16 = .ok (.iload_n 1, 1) := by decide +kernel
theorem dX6_hasReach_17 : decode cX6_hasReach 17 = .ok (.if_icmp .ne 5, 3) := by decide +kernel
theorem dX6_hasReach_20 : decode cX6_hasReach 20 = .ok (.iconst 1, 1) := by decide +kernel
theorem dX6_hasReach_21 : decode cX6_hasReach 21 = .ok (.ireturn, 1) := by decide +kernel
theorem dX6_hasReach_22 : decode cX6_hasReach 22 = .ok (.iinc 2 1, 3) := by decide +kernel
theorem dX6_hasReach_25 : decode cX6_hasReach 25 = .ok (.goto (-23), 3) := by decide +kernel
theorem dX6_hasReach_28 : decode cX6_hasReach 28 = .ok (.iconst 0, 1) := by decide +kernel
theorem dX6_hasReach_29 : decode cX6_hasReach 29 = .ok (.ireturn, 1) := by decide +kernel
theorem dX6_clear_0 : decode cX6_clear 0 = .ok (.aload_n 0, 1) := by decide +kernel
theorem dX6_clear_1 : decode cX6_clear 1 = .ok (.iconst 0, 1) := by decide +kernel
theorem dX6_clear_2 : decode cX6_clear 2 = .ok (.putfield 31, 3) := by decide +kernel
theorem dX6_clear_5 : decode cX6_clear 5 = .ok (.aload_n 0, 1) := by decide +kernel
theorem dX6_clear_6 : decode cX6_clear 6 = .ok (.iconst 0, 1) := by decide +kernel
theorem dX6_clear_7 : decode cX6_clear 7 = .ok (.putfield 35, 3) := by decide +kernel
theorem dX6_clear_10 : decode cX6_clear 10 = .ok (.return_, 1) := by decide +kernel
theorem dX6_addStep_0 : decode cX6_addStep 0 = .ok (.aload_n 0, 1) := by decide +kernel
theorem dX6_addStep_1 : decode cX6_addStep 1 = .ok (.getfield 31, 3) := by decide +kernel
theorem dX6_addStep_4 : decode cX6_addStep 4 = .ok (.bipush 18, 2) := by decide +kernel
theorem dX6_addStep_6 : decode cX6_addStep 6 = .ok (.if_icmp .ge 43, 3) := by decide +kernel
theorem dX6_addStep_9 : decode cX6_addStep 9 = .ok (.aload_n 0, 1) := by decide +kernel
theorem dX6_addStep_10 : decode cX6_addStep 10 = .ok (.getfield 9, 3) := by decide +kernel
theorem dX6_addStep_13 : decode cX6_addStep 13 = .ok (.aload_n 0, 1) := by decide +kernel
theorem dX6_addStep_14 : decode cX6_addStep 14 = .ok (.getfield 31, 3) := by decide +kernel
theorem dX6_addStep_17 : decode cX6_addStep 17 = .ok (.iload_n 1, 1) := by decide +kernel
theorem dX6_addStep_18 : decode cX6_addStep 18 = .ok (.iastore, 1) := by decide +kernel
theorem dX6_addStep_19 : decode cX6_addStep 19 = .ok (.aload_n 0, 1) := by decide +kernel
theorem dX6_addStep_20 : decode cX6_addStep 20 = .ok (.getfield 13, 3) := by decide +kernel
theorem dX6_addStep_23 : decode cX6_addStep 23 = .ok (.aload_n 0, 1) := by decide +kernel
theorem dX6_addStep_24 : decode cX6_addStep 24 = .ok (.getfield 31, 3) := by decide +kernel
theorem dX6_addStep_27 : decode cX6_addStep 27 = .ok (.iload_n 2, 1) := by decide +kernel
theorem dX6_addStep_28 : decode cX6_addStep 28 = .ok (.iastore, 1) := by decide +kernel
theorem dX6_addStep_29 : decode cX6_addStep 29 = .ok (.aload_n 0, 1) := by decide +kernel
theorem dX6_addStep_30 : decode cX6_addStep 30 = .ok (.getfield 16, 3) := by decide +kernel
theorem dX6_addStep_33 : decode cX6_addStep 33 = .ok (.aload_n 0, 1) := by decide +kernel
theorem dX6_addStep_34 : decode cX6_addStep 34 = .ok (.getfield 31, 3) := by decide +kernel
theorem dX6_addStep_37 : decode cX6_addStep 37 = .ok (.iconst 0, 1) := by decide +kernel
theorem dX6_addStep_38 : decode cX6_addStep 38 = .ok (.iastore, 1) := by decide +kernel
theorem dX6_addStep_39 : decode cX6_addStep 39 = .ok (.aload_n 0, 1) := by decide +kernel
theorem dX6_addStep_40 : decode cX6_addStep 40 = .ok (.dup, 1) := by decide +kernel
theorem dX6_addStep_41 : decode cX6_addStep 41 = .ok (.getfield 31, 3) := by decide +kernel
theorem dX6_addStep_44 : decode cX6_addStep 44 = .ok (.iconst 1, 1) := by decide +kernel
theorem dX6_addStep_45 : decode cX6_addStep 45 = .ok (.iadd, 1) := by decide +kernel
theorem dX6_addStep_46 : decode cX6_addStep 46 = .ok (.putfield 31, 3) := by decide +kernel
theorem dX6_addStep_49 : decode cX6_addStep 49 = .ok (.return_, 1) := by decide +kernel
theorem dX6_addWalker_0 : decode cX6_addWalker 0 = .ok (.aload_n 0, 1) := by decide +kernel
theorem dX6_addWalker_1 : decode cX6_addWalker 1 = .ok (.getfield 35, 3) := by decide +kernel
theorem dX6_addWalker_4 : decode cX6_addWalker 4 = .ok (.bipush 6, 2) := by decide +kernel
theorem dX6_addWalker_6 : decode cX6_addWalker 6 = .ok (.if_icmp .ge 54, 3) := by decide +kernel
theorem dX6_addWalker_9 : decode cX6_addWalker 9 = .ok (.aload_n 0, 1) := by decide +kernel
theorem dX6_addWalker_10 : decode cX6_addWalker 10 = .ok (.getfield 19, 3) := by decide +kernel
theorem dX6_addWalker_13 : decode cX6_addWalker 13 = .ok (.aload_n 0, 1) := by decide +kernel
theorem dX6_addWalker_14 : decode cX6_addWalker 14 = .ok (.getfield 35, 3) := by decide +kernel
theorem dX6_addWalker_17 : decode cX6_addWalker 17 = .ok (.iload_n 1, 1) := by decide +kernel
theorem dX6_addWalker_18 : decode cX6_addWalker 18 = .ok (.iastore, 1) := by decide +kernel
theorem dX6_addWalker_19 : decode cX6_addWalker 19 = .ok (.aload_n 0, 1) := by decide +kernel
theorem dX6_addWalker_20 : decode cX6_addWalker 20 = .ok (.getfield 22, 3) := by decide +kernel
theorem dX6_addWalker_23 : decode cX6_addWalker 23 = .ok (.aload_n 0, 1) := by decide +kernel
theorem dX6_addWalker_24 : decode cX6_addWalker 24 = .ok (.getfield 35, 3) := by decide +kernel
theorem dX6_addWalker_27 : decode cX6_addWalker 27 = .ok (.iload_n 2, 1) := by decide +kernel
theorem dX6_addWalker_28 : decode cX6_addWalker 28 = .ok (.iastore, 1) := by decide +kernel
theorem dX6_addWalker_29 : decode cX6_addWalker 29 = .ok (.aload_n 0, 1) := by decide +kernel
theorem dX6_addWalker_30 : decode cX6_addWalker 30 = .ok (.getfield 25, 3) := by decide +kernel
theorem dX6_addWalker_33 : decode cX6_addWalker 33 = .ok (.aload_n 0, 1) := by decide +kernel
theorem dX6_addWalker_34 : decode cX6_addWalker 34 = .ok (.getfield 35, 3) := by decide +kernel
theorem dX6_addWalker_37 : decode cX6_addWalker 37 = .ok (.iload_n 3, 1) := by decide +kernel
theorem dX6_addWalker_38 : decode cX6_addWalker 38 = .ok (.iastore, 1) := by decide +kernel
theorem dX6_addWalker_39 : decode cX6_addWalker 39 = .ok (.aload_n 0, 1) := by decide +kernel
theorem dX6_addWalker_40 : decode cX6_addWalker 40 = .ok (.getfield 28, 3) := by decide +kernel
theorem dX6_addWalker_43 : decode cX6_addWalker 43 = .ok (.aload_n 0, 1) := by decide +kernel
theorem dX6_addWalker_44 : decode cX6_addWalker 44 = .ok (.getfield 35, 3) := by decide +kernel
theorem dX6_addWalker_47 : decode cX6_addWalker 47 = .ok (.iload 4, 2) := by decide +kernel
theorem dX6_addWalker_49 : decode cX6_addWalker 49 = .ok (.iastore, 1) := by decide +kernel
theorem dX6_addWalker_50 : decode cX6_addWalker 50 = .ok (.aload_n 0, 1) := by decide +kernel
theorem dX6_addWalker_51 : decode cX6_addWalker 51 = .ok (.dup, 1) := by decide +kernel
theorem dX6_addWalker_52 : decode cX6_addWalker 52 = .ok (.getfield 35, 3) := by decide +kernel
theorem dX6_addWalker_55 : decode cX6_addWalker 55 = .ok (.iconst 1, 1) := by decide +kernel
theorem dX6_addWalker_56 : decode cX6_addWalker 56 = .ok (.iadd, 1) := by decide +kernel
theorem dX6_addWalker_57 : decode cX6_addWalker 57 = .ok (.putfield 35, 3) := by decide +kernel
theorem dX6_addWalker_60 : decode cX6_addWalker 60 = .ok (.return_, 1) := by decide +kernel
theorem dX6_takeOver_0 : decode cX6_takeOver 0 = .ok (.aload_n 0, 1) := by decide +kernel
theorem dX6_takeOver_1 : decode cX6_takeOver 1 = .ok (.aload_n 1, 1) := by decide +kernel
theorem dX6_takeOver_2 : decode cX6_takeOver 2 = .ok (.getfield 31, 3) := by decide +kernel
theorem dX6_takeOver_5 : decode cX6_takeOver 5 = .ok (.putfield 31, 3) := by decide +kernel
theorem dX6_takeOver_8 : decode cX6_takeOver 8 = .ok (.aload_n 0, 1) := by decide +kernel
theorem dX6_takeOver_9 : decode cX6_takeOver 9 = .ok (.aload_n 1, 1) := by decide +kernel
theorem dX6_takeOver_10 : decode cX6_takeOver 10 = .ok (.getfield 35, 3) := by decide +kernel
theorem dX6_takeOver_13 : decode cX6_takeOver 13 = .ok (.putfield 35, 3) := by decide +kernel
theorem dX6_takeOver_16 : decode cX6_takeOver 16 = .ok (.iconst 0, 1) := by decide +kernel
theorem dX6_takeOver_17 : decode cX6_takeOver 17 = .ok (.istore_n 2, 1) := by decide +kernel
theorem dX6_takeOver_18 : decode cX6_takeOver 18 = .ok (.iload_n 2, 1) := by decide +kernel
theorem dX6_takeOver_19 : decode cX6_takeOver 19 = .ok (.bipush 18, 2) := by decide +kernel
theorem dX6_takeOver_21 : decode cX6_takeOver 21 = .ok (.if_icmp .ge 45, 3) := by decide +kernel
theorem dX6_takeOver_24 : decode cX6_takeOver 24 = .ok (.aload_n 0, 1) := by decide +kernel
theorem dX6_takeOver_25 : decode cX6_takeOver 25 = .ok (.getfield 9, 3) := by decide +kernel
theorem dX6_takeOver_28 : decode cX6_takeOver 28 = .ok (.iload_n 2, 1) := by decide +kernel
theorem dX6_takeOver_29 : decode cX6_takeOver 29 = .ok (.aload_n 1, 1) := by decide +kernel
theorem dX6_takeOver_30 : decode cX6_takeOver 30 = .ok (.getfield 9, 3) := by decide +kernel
theorem dX6_takeOver_33 : decode cX6_takeOver 33 = .ok (.iload_n 2, 1) := by decide +kernel
theorem dX6_takeOver_34 : decode cX6_takeOver 34 = .ok (.iaload, 1) := by decide +kernel
theorem dX6_takeOver_35 : decode cX6_takeOver 35 = .ok (.iastore, 1) := by decide +kernel
theorem dX6_takeOver_36 : decode cX6_takeOver 36 = .ok (.aload_n 0, 1) := by decide +kernel
theorem dX6_takeOver_37 : decode cX6_takeOver 37 = .ok (.getfield 13, 3) := by decide +kernel
theorem dX6_takeOver_40 : decode cX6_takeOver 40 = .ok (.iload_n 2, 1) := by decide +kernel
theorem dX6_takeOver_41 : decode cX6_takeOver 41 = .ok (.aload_n 1, 1) := by decide +kernel
theorem dX6_takeOver_42 : decode cX6_takeOver 42 = .ok (.getfield 13, 3) := by decide +kernel
theorem dX6_takeOver_45 : decode cX6_takeOver 45 = .ok (.iload_n 2, 1) := by decide +kernel
theorem dX6_takeOver_46 : decode cX6_takeOver 46 = .ok (.iaload, 1) := by decide +kernel
theorem dX6_takeOver_47 : decode cX6_takeOver 47 = .ok (.iastore, 1) := by decide +kernel
theorem dX6_takeOver_48 : decode cX6_takeOver 48 = .ok (.aload_n 0, 1) := by decide +kernel
theorem dX6_takeOver_49 : decode cX6_takeOver 49 = .ok (.getfield 16, 3) := by decide +kernel
theorem dX6_takeOver_52 : decode cX6_takeOver 52 = .ok (.iload_n 2, 1) := by decide +kernel
theorem dX6_takeOver_53 : decode cX6_takeOver 53 = .ok (.aload_n 1, 1) := by decide +kernel
theorem dX6_takeOver_54 : decode cX6_takeOver 54 = .ok (.getfield 16, 3) := by decide +kernel
theorem dX6_takeOver_57 : decode cX6_takeOver 57 = .ok (.iload_n 2, 1) := by decide +kernel
theorem dX6_takeOver_58 : decode cX6_takeOver 58 = .ok (.iaload, 1) := by decide +kernel
theorem dX6_takeOver_59 : decode cX6_takeOver 59 = .ok (.iastore, 1) := by decide +kernel
theorem dX6_takeOver_60 : decode cX6_takeOver 60 = .ok (.iinc 2 1, 3) := by decide +kernel
theorem dX6_takeOver_63 : decode cX6_takeOver 63 = .ok (.goto (-45), 3) := by decide +kernel
theorem dX6_takeOver_66 : decode cX6_takeOver 66 = .ok (.iconst 0, 1) := by decide +kernel
theorem dX6_takeOver_67 : decode cX6_takeOver 67 = .ok (.istore_n 2, 1) := by decide +kernel
theorem dX6_takeOver_68 : decode cX6_takeOver 68 = .ok (.iload_n 2, 1) := by decide +kernel
theorem dX6_takeOver_69 : decode cX6_takeOver 69 = .ok (.bipush 6, 2) := by decide +kernel
theorem dX6_takeOver_71 : decode cX6_takeOver 71 = .ok (.if_icmp .ge 57, 3) := by decide +kernel
theorem dX6_takeOver_74 : decode cX6_takeOver 74 = .ok (.aload_n 0, 1) := by decide +kernel
theorem dX6_takeOver_75 : decode cX6_takeOver 75 = .ok (.getfield 19, 3) := by decide +kernel
theorem dX6_takeOver_78 : decode cX6_takeOver 78 = .ok (.iload_n 2, 1) := by decide +kernel
theorem dX6_takeOver_79 : decode cX6_takeOver 79 = .ok (.aload_n 1, 1) := by decide +kernel
theorem dX6_takeOver_80 : decode cX6_takeOver 80 = .ok (.getfield 19, 3) := by decide +kernel
theorem dX6_takeOver_83 : decode cX6_takeOver 83 = .ok (.iload_n 2, 1) := by decide +kernel
theorem dX6_takeOver_84 : decode cX6_takeOver 84 = .ok (.iaload, 1) := by decide +kernel
theorem dX6_takeOver_85 : decode cX6_takeOver 85 = .ok (.iastore, 1) := by decide +kernel
theorem dX6_takeOver_86 : decode cX6_takeOver 86 = .ok (.aload_n 0, 1) := by decide +kernel
theorem dX6_takeOver_87 : decode cX6_takeOver 87 = .ok (.getfield 22, 3) := by decide +kernel
theorem dX6_takeOver_90 : decode cX6_takeOver 90 = .ok (.iload_n 2, 1) := by decide +kernel
theorem dX6_takeOver_91 : decode cX6_takeOver 91 = .ok (.aload_n 1, 1) := by decide +kernel
theorem dX6_takeOver_92 : decode cX6_takeOver 92 = .ok (.getfield 22, 3) := by decide +kernel
theorem dX6_takeOver_95 : decode cX6_takeOver 95 = .ok (.iload_n 2, 1) := by decide +kernel
theorem dX6_takeOver_96 : decode cX6_takeOver 96 = .ok (.iaload, 1) := by decide +kernel
theorem dX6_takeOver_97 : decode cX6_takeOver 97 = .ok (.iastore, 1) := by decide +kernel
theorem dX6_takeOver_98 : decode cX6_takeOver 98 = .ok (.aload_n 0, 1) := by decide +kernel
theorem dX6_takeOver_99 : decode cX6_takeOver 99 = .ok (.getfield 25, 3) := by decide +kernel
theorem dX6_takeOver_102 : decode cX6_takeOver 102 = .ok (.iload_n 2, 1) := by decide +kernel
theorem dX6_takeOver_103 : decode cX6_takeOver 103 = .ok (.aload_n 1, 1) := by decide +kernel
theorem dX6_takeOver_104 : decode cX6_takeOver 104 = .ok (.getfield 25, 3) := by decide +kernel
theorem dX6_takeOver_107 : decode cX6_takeOver 107 = .ok (.iload_n 2, 1) := by decide +kernel
theorem dX6_takeOver_108 : decode cX6_takeOver 108 = .ok (.iaload, 1) := by decide +kernel
theorem dX6_takeOver_109 : decode cX6_takeOver 109 = .ok (.iastore, 1) := by decide +kernel
theorem dX6_takeOver_110 : decode cX6_takeOver 110 = .ok (.aload_n 0, 1) := by decide +kernel
theorem dX6_takeOver_111 : decode cX6_takeOver 111 = .ok (.getfield 28, 3) := by decide +kernel
theorem dX6_takeOver_114 : decode cX6_takeOver 114 = .ok (.iload_n 2, 1) := by decide +kernel
theorem dX6_takeOver_115 : decode cX6_takeOver 115 = .ok (.aload_n 1, 1) := by decide +kernel
theorem dX6_takeOver_116 : decode cX6_takeOver 116 = .ok (.getfield 28, 3) := by decide +kernel
theorem dX6_takeOver_119 : decode cX6_takeOver 119 = .ok (.iload_n 2, 1) := by decide +kernel
theorem dX6_takeOver_120 : decode cX6_takeOver 120 = .ok (.iaload, 1) := by decide +kernel
theorem dX6_takeOver_121 : decode cX6_takeOver 121 = .ok (.iastore, 1) := by decide +kernel
theorem dX6_takeOver_122 : decode cX6_takeOver 122 = .ok (.iinc 2 1, 3) := by decide +kernel
theorem dX6_takeOver_125 : decode cX6_takeOver 125 = .ok (.goto (-57), 3) := by decide +kernel
theorem dX6_takeOver_128 : decode cX6_takeOver 128 = .ok (.return_, 1) := by decide +kernel
theorem dX6_isOf_0 : decode cX6_isOf 0 = .ok (.iload_n 2, 1) := by decide +kernel
theorem dX6_isOf_1 : decode cX6_isOf 1 = .ok (.ifCond .lt 29, 3) := by decide +kernel
theorem dX6_isOf_4 : decode cX6_isOf 4 = .ok (.iload_n 2, 1) := by decide +kernel
theorem dX6_isOf_5 : decode cX6_isOf 5 = .ok (.aload_n 0, 1) := by decide +kernel
theorem dX6_isOf_6 : decode cX6_isOf 6 = .ok (.getfield 31, 3) := by decide +kernel
theorem dX6_isOf_9 : decode cX6_isOf 9 = .ok (.if_icmp .ge 21, 3) := by decide +kernel
theorem dX6_isOf_12 : decode cX6_isOf 12 = .ok (.iload_n 1, 1) := by decide +kernel
theorem dX6_isOf_13 : decode cX6_isOf 13 = .ok (.aload_n 0, 1) := by decide +kernel
theorem dX6_isOf_14 : decode cX6_isOf 14 = .ok (.getfield 9, 3) := by decide +kernel
theorem dX6_isOf_17 : decode cX6_isOf 17 = .ok (.iload_n 2, 1) := by decide +kernel
theorem dX6_isOf_18 : decode cX6_isOf 18 = .ok (.iaload, 1) := by decide +kernel
theorem dX6_isOf_19 : decode cX6_isOf 19 = .ok (.ishr, 1) := by decide +kernel
theorem dX6_isOf_20 : decode cX6_isOf 20 = .ok (.iconst 1, 1) := by decide +kernel
theorem dX6_isOf_21 : decode cX6_isOf 21 = .ok (.iand, 1) := by decide +kernel
theorem dX6_isOf_22 : decode cX6_isOf 22 = .ok (.iconst 1, 1) := by decide +kernel
theorem dX6_isOf_23 : decode cX6_isOf 23 = .ok (.if_icmp .ne 7, 3) := by decide +kernel
theorem dX6_isOf_26 : decode cX6_isOf 26 = .ok (.iconst 1, 1) := by decide +kernel
theorem dX6_isOf_27 : decode cX6_isOf 27 = .ok (.goto 4, 3) := by decide +kernel
theorem dX6_isOf_30 : decode cX6_isOf 30 = .ok (.iconst 0, 1) := by decide +kernel
theorem dX6_isOf_31 : decode cX6_isOf 31 = .ok (.ireturn, 1) := by decide +kernel
theorem dX6_ownAny_0 : decode cX6_ownAny 0 = .ok (.iconst 0, 1) := by decide +kernel
theorem dX6_ownAny_1 : decode cX6_ownAny 1 = .ok (.istore_n 2, 1) := by decide +kernel
theorem dX6_ownAny_2 : decode cX6_ownAny 2 = .ok (.iload_n 2, 1) := by decide +kernel
theorem dX6_ownAny_3 : decode cX6_ownAny 3 = .ok (.aload_n 0, 1) := by decide +kernel
theorem dX6_ownAny_4 : decode cX6_ownAny 4 = .ok (.getfield 31, 3) := by decide +kernel
theorem dX6_ownAny_7 : decode cX6_ownAny 7 = .ok (.if_icmp .ge 20, 3) := by decide +kernel
theorem dX6_ownAny_10 : decode cX6_ownAny 10 = .ok (.aload_n 0, 1) := by decide +kernel
theorem dX6_ownAny_11 : decode cX6_ownAny 11 = .ok (.iload_n 1, 1) := by decide +kernel
theorem dX6_ownAny_12 : decode cX6_ownAny 12 = .ok (.iload_n 2, 1) := by decide +kernel
theorem dX6_ownAny_13 : decode cX6_ownAny 13 = .ok (.invokevirtual 38, 3) := by decide +kernel
theorem dX6_ownAny_16 : decode cX6_ownAny 16 = .ok (.ifCond .eq 5, 3) := by decide +kernel
theorem dX6_ownAny_19 : decode cX6_ownAny 19 = .ok (.iconst 1, 1) := by decide +kernel
theorem dX6_ownAny_20 : decode cX6_ownAny 20 = .ok (.ireturn, 1) := by decide +kernel
theorem dX6_ownAny_21 : decode cX6_ownAny 21 = .ok (.iinc 2 1, 3) := by decide +kernel
theorem dX6_ownAny_24 : decode cX6_ownAny 24 = .ok (.goto (-22), 3) := by decide +kernel
theorem dX6_ownAny_27 : decode cX6_ownAny 27 = .ok (.iconst 0, 1) := by decide +kernel
theorem dX6_ownAny_28 : decode cX6_ownAny 28 = .ok (.ireturn, 1) := by decide +kernel
theorem dX6_askAll_0 : decode cX6_askAll 0 = .ok (.iconst 0, 1) := by decide +kernel
theorem dX6_askAll_1 : decode cX6_askAll 1 = .ok (.istore_n 3, 1) := by decide +kernel
theorem dX6_askAll_2 : decode cX6_askAll 2 = .ok (.iload_n 3, 1) := by decide +kernel
theorem dX6_askAll_3 : decode cX6_askAll 3 = .ok (.aload_n 0, 1) := by decide +kernel
theorem dX6_askAll_4 : decode cX6_askAll 4 = .ok (.getfield 31, 3) := by decide +kernel
theorem dX6_askAll_7 : decode cX6_askAll 7 = .ok (.if_icmp .ge 25, 3) := by decide +kernel
theorem dX6_askAll_10 : decode cX6_askAll 10 = .ok (.aload_n 0, 1) := by decide +kernel
theorem dX6_askAll_11 : decode cX6_askAll 11 = .ok (.iload_n 1, 1) := by decide +kernel
theorem dX6_askAll_12 : decode cX6_askAll 12 = .ok (.iload_n 3, 1) := by decide +kernel
theorem dX6_askAll_13 : decode cX6_askAll 13 = .ok (.invokevirtual 38, 3) := by decide +kernel
theorem dX6_askAll_16 : decode cX6_askAll 16 = .ok (.ifCond .eq 10, 3) := by decide +kernel
theorem dX6_askAll_19 : decode cX6_askAll 19 = .ok (.aload_n 0, 1) := by decide +kernel
theorem dX6_askAll_20 : decode cX6_askAll 20 = .ok (.getfield 13, 3) := by decide +kernel
theorem dX6_askAll_23 : decode cX6_askAll 23 = .ok (.iload_n 3, 1) := by decide +kernel
theorem dX6_askAll_24 : decode cX6_askAll 24 = .ok (.iload_n 2, 1) := by decide +kernel
theorem dX6_askAll_25 : decode cX6_askAll 25 = .ok (.iastore, 1) := by decide +kernel
theorem dX6_askAll_26 : decode cX6_askAll 26 = .ok (.iinc 3 1, 3) := by decide +kernel
theorem dX6_askAll_29 : decode cX6_askAll 29 = .ok (.goto (-27), 3) := by decide +kernel
theorem dX6_askAll_32 : decode cX6_askAll 32 = .ok (.return_, 1) := by decide +kernel
theorem dX6_allAsk_0 : decode cX6_allAsk 0 = .ok (.iconst 0, 1) := by decide +kernel
theorem dX6_allAsk_1 : decode cX6_allAsk 1 = .ok (.istore_n 3, 1) := by decide +kernel
theorem dX6_allAsk_2 : decode cX6_allAsk 2 = .ok (.iload_n 3, 1) := by decide +kernel
theorem dX6_allAsk_3 : decode cX6_allAsk 3 = .ok (.aload_n 0, 1) := by decide +kernel
theorem dX6_allAsk_4 : decode cX6_allAsk 4 = .ok (.getfield 31, 3) := by decide +kernel
theorem dX6_allAsk_7 : decode cX6_allAsk 7 = .ok (.if_icmp .ge 30, 3) := by decide +kernel
theorem dX6_allAsk_10 : decode cX6_allAsk 10 = .ok (.aload_n 0, 1) := by decide +kernel
theorem dX6_allAsk_11 : decode cX6_allAsk 11 = .ok (.iload_n 1, 1) := by decide +kernel
theorem dX6_allAsk_12 : decode cX6_allAsk 12 = .ok (.iload_n 3, 1) := by decide +kernel
theorem dX6_allAsk_13 : decode cX6_allAsk 13 = .ok (.invokevirtual 38, 3) := by decide +kernel
theorem dX6_allAsk_16 : decode cX6_allAsk 16 = .ok (.ifCond .eq 15, 3) := by decide +kernel
theorem dX6_allAsk_19 : decode cX6_allAsk 19 = .ok (.aload_n 0, 1) := by decide +kernel
theorem dX6_allAsk_20 : decode cX6_allAsk 20 = .ok (.getfield 13, 3) := by decide +kernel
theorem dX6_allAsk_23 : decode cX6_allAsk 23 = .ok (.iload_n 3, 1) := by decide +kernel
theorem dX6_allAsk_24 : decode cX6_allAsk 24 = .ok (.iaload, 1) := by decide +kernel
theorem dX6_allAsk_25 : decode cX6_allAsk 25 = .ok (.iload_n 2, 1) := by decide +kernel
theorem dX6_allAsk_26 : decode cX6_allAsk 26 = .ok (.if_icmp .eq 5, 3) := by decide +kernel
theorem dX6_allAsk_29 : decode cX6_allAsk 29 = .ok (.iconst 0, 1) := by decide +kernel
theorem dX6_allAsk_30 : decode cX6_allAsk 30 = .ok (.ireturn, 1) := by decide +kernel
theorem dX6_allAsk_31 : decode cX6_allAsk 31 = .ok (.iinc 3 1, 3) := by decide +kernel
theorem dX6_allAsk_34 : decode cX6_allAsk 34 = .ok (.goto (-32), 3) := by decide +kernel
theorem dX6_allAsk_37 : decode cX6_allAsk 37 = .ok (.iconst 1, 1) := by decide +kernel
theorem dX6_allAsk_38 : decode cX6_allAsk 38 = .ok (.ireturn, 1) := by decide +kernel
theorem dX6_askOneAtMost_0 : decode cX6_askOneAtMost 0 = .ok (.iconst 0, 1) := by decide +kernel
theorem dX6_askOneAtMost_1 : decode cX6_askOneAtMost 1 = .ok (.istore_n 1, 1) := by decide +kernel
theorem dX6_askOneAtMost_2 : decode cX6_askOneAtMost 2 = .ok (.iload_n 1, 1) := by decide +kernel
theorem dX6_askOneAtMost_3 : decode cX6_askOneAtMost 3 = .ok (.aload_n 0, 1) := by decide +kernel
theorem dX6_askOneAtMost_4 : decode cX6_askOneAtMost 4 = .ok (.getfield 31, 3) := by decide +kernel
theorem dX6_askOneAtMost_7 : decode cX6_askOneAtMost 7 = .ok (.if_icmp .ge 25, 3) := by decide +kernel
theorem dX6_askOneAtMost_10 : decode cX6_askOneAtMost 10 = .ok (.aload_n 0, 1) := by decide +kernel
theorem dX6_askOneAtMost_11 : decode cX6_askOneAtMost 11 = .ok (.getfield 13, 3) := by decide +kernel
theorem dX6_askOneAtMost_14 : decode cX6_askOneAtMost 14 = .ok (.iload_n 1, 1) := by decide +kernel
theorem dX6_askOneAtMost_15 : decode cX6_askOneAtMost 15 = .ok (.iconst 1, 1) := by decide +kernel
theorem dX6_askOneAtMost_16 : decode cX6_askOneAtMost 16 = .ok (.aload_n 0, 1) := by decide +kernel
theorem dX6_askOneAtMost_17 : decode cX6_askOneAtMost 17 = .ok (.getfield 13, 3) := by decide +kernel
theorem dX6_askOneAtMost_20 : decode cX6_askOneAtMost 20 = .ok (.iload_n 1, 1) := by decide +kernel
theorem dX6_askOneAtMost_21 : decode cX6_askOneAtMost 21 = .ok (.iaload, 1) := by decide +kernel
theorem dX6_askOneAtMost_22 : decode cX6_askOneAtMost 22 = .ok (.invokestatic 42, 3) := by decide +kernel
theorem dX6_askOneAtMost_25 : decode cX6_askOneAtMost 25 = .ok (.iastore, 1) := by decide +kernel
theorem dX6_askOneAtMost_26 : decode cX6_askOneAtMost 26 = .ok (.iinc 1 1, 3) := by decide +kernel
theorem dX6_askOneAtMost_29 : decode cX6_askOneAtMost 29 = .ok (.goto (-27), 3) := by decide +kernel
theorem dX6_askOneAtMost_32 : decode cX6_askOneAtMost 32 = .ok (.return_, 1) := by decide +kernel
theorem dX6_times_0 : decode cX6_times 0 = .ok (.aload_n 0, 1) := by decide +kernel
theorem dX6_times_1 : decode cX6_times 1 = .ok (.iload_n 1, 1) := by decide +kernel
theorem dX6_times_2 : decode cX6_times 2 = .ok (.invokevirtual 48, 3) := by decide +kernel
theorem dX6_times_5 : decode cX6_times 5 = .ok (.ifCond .eq 14, 3) := by decide +kernel
theorem dX6_times_8 : decode cX6_times 8 = .ok (.iconst 1, 1) := by decide +kernel
theorem dX6_times_9 : decode cX6_times 9 = .ok (.aload_n 0, 1) := by decide +kernel
theorem dX6_times_10 : decode cX6_times 10 = .ok (.getfield 22, 3) := by decide +kernel
theorem dX6_times_13 : decode cX6_times 13 = .ok (.iload_n 1, 1) := by decide +kernel
theorem dX6_times_14 : decode cX6_times 14 = .ok (.iaload, 1) := by decide +kernel
theorem dX6_times_15 : decode cX6_times 15 = .ok (.iadd, 1) := by decide +kernel
theorem dX6_times_16 : decode cX6_times 16 = .ok (.goto 4, 3) := by decide +kernel
theorem dX6_times_19 : decode cX6_times 19 = .ok (.iconst 1, 1) := by decide +kernel
theorem dX6_times_20 : decode cX6_times 20 = .ok (.ireturn, 1) := by decide +kernel
theorem dX6_unitsPaid_0 : decode cX6_unitsPaid 0 = .ok (.iconst 0, 1) := by decide +kernel
theorem dX6_unitsPaid_1 : decode cX6_unitsPaid 1 = .ok (.istore_n 3, 1) := by decide +kernel
theorem dX6_unitsPaid_2 : decode cX6_unitsPaid 2 = .ok (.iconst 0, 1) := by decide +kernel
theorem dX6_unitsPaid_3 : decode cX6_unitsPaid 3 = .ok (.istore 4, 2) := by decide +kernel
theorem dX6_unitsPaid_5 : decode cX6_unitsPaid 5 = .ok (.iload 4, 2) := by decide +kernel
theorem dX6_unitsPaid_7 : decode cX6_unitsPaid 7 = .ok (.aload_n 0, 1) := by decide +kernel
theorem dX6_unitsPaid_8 : decode cX6_unitsPaid 8 = .ok (.getfield 35, 3) := by decide +kernel
theorem dX6_unitsPaid_11 : decode cX6_unitsPaid 11 = .ok (.if_icmp .ge 58, 3) := by decide +kernel
theorem dX6_unitsPaid_14 : decode cX6_unitsPaid 14 = .ok (.iconst 1, 1) := by decide +kernel
theorem dX6_unitsPaid_15 : decode cX6_unitsPaid 15 = .ok (.aload_n 0, 1) := by decide +kernel
theorem dX6_unitsPaid_16 : decode cX6_unitsPaid 16 = .ok (.getfield 22, 3) := by decide +kernel
theorem dX6_unitsPaid_19 : decode cX6_unitsPaid 19 = .ok (.iload 4, 2) := by decide +kernel
theorem dX6_unitsPaid_21 : decode cX6_unitsPaid 21 = .ok (.iaload, 1) := by decide +kernel
theorem dX6_unitsPaid_22 : decode cX6_unitsPaid 22 = .ok (.iadd, 1) := by decide +kernel
theorem dX6_unitsPaid_23 : decode cX6_unitsPaid 23 = .ok (.istore 5, 2) := by decide +kernel
theorem dX6_unitsPaid_25 : decode cX6_unitsPaid 25 = .ok (.aload_n 0, 1) := by decide +kernel
theorem dX6_unitsPaid_26 : decode cX6_unitsPaid 26 = .ok (.getfield 19, 3) := by decide +kernel
theorem dX6_unitsPaid_29 : decode cX6_unitsPaid 29 = .ok (.iload 4, 2) := by decide +kernel
theorem dX6_unitsPaid_31 : decode cX6_unitsPaid 31 = .ok (.iaload, 1) := by decide +kernel
theorem dX6_unitsPaid_32 : decode cX6_unitsPaid 32 = .ok (.iload_n 1, 1) := by decide +kernel
theorem dX6_unitsPaid_33 : decode cX6_unitsPaid 33 = .ok (.if_icmp .ne 30, 3) := by decide +kernel
theorem dX6_unitsPaid_36 : decode cX6_unitsPaid 36 = .ok (.iload_n 2, 1) := by decide +kernel
theorem dX6_unitsPaid_37 : decode cX6_unitsPaid 37 = .ok (.iload 5, 2) := by decide +kernel
theorem dX6_unitsPaid_39 : decode cX6_unitsPaid 39 = .ok (.imul, 1) := by decide +kernel
theorem dX6_unitsPaid_40 : decode cX6_unitsPaid 40 = .ok (.aload_n 0, 1) := by decide +kernel
theorem dX6_unitsPaid_41 : decode cX6_unitsPaid 41 = .ok (.getfield 25, 3) := by decide +kernel
theorem dX6_unitsPaid_44 : decode cX6_unitsPaid 44 = .ok (.iload 4, 2) := by decide +kernel
theorem dX6_unitsPaid_46 : decode cX6_unitsPaid 46 = .ok (.iaload, 1) := by decide +kernel
theorem dX6_unitsPaid_47 : decode cX6_unitsPaid 47 = .ok (.if_icmp .gt 16, 3) := by decide +kernel
theorem dX6_unitsPaid_50 : decode cX6_unitsPaid 50 = .ok (.iload_n 3, 1) := by decide +kernel
theorem dX6_unitsPaid_51 : decode cX6_unitsPaid 51 = .ok (.iload 5, 2) := by decide +kernel
theorem dX6_unitsPaid_53 : decode cX6_unitsPaid 53 = .ok (.aload_n 0, 1) := by decide +kernel
theorem dX6_unitsPaid_54 : decode cX6_unitsPaid 54 = .ok (.getfield 28, 3) := by decide +kernel
theorem dX6_unitsPaid_57 : decode cX6_unitsPaid 57 = .ok (.iload 4, 2) := by decide +kernel
theorem dX6_unitsPaid_59 : decode cX6_unitsPaid 59 = .ok (.iaload, 1) := by decide +kernel
theorem dX6_unitsPaid_60 : decode cX6_unitsPaid 60 = .ok (.imul, 1) := by decide +kernel
theorem dX6_unitsPaid_61 : decode cX6_unitsPaid 61 = .ok (.iadd, 1) := by decide +kernel
theorem dX6_unitsPaid_62 : decode cX6_unitsPaid 62 = .ok (.istore_n 3, 1) := by decide +kernel
theorem dX6_unitsPaid_63 : decode cX6_unitsPaid 63 = .ok (.iinc 4 1, 3) := by decide +kernel
theorem dX6_unitsPaid_66 : decode cX6_unitsPaid 66 = .ok (.goto (-61), 3) := by decide +kernel
theorem dX6_unitsPaid_69 : decode cX6_unitsPaid 69 = .ok (.iload_n 3, 1) := by decide +kernel
theorem dX6_unitsPaid_70 : decode cX6_unitsPaid 70 = .ok (.ireturn, 1) := by decide +kernel
theorem dX6_allFolk_0 : decode cX6_allFolk 0 = .ok (.iconst 0, 1) := by decide +kernel
theorem dX6_allFolk_1 : decode cX6_allFolk 1 = .ok (.istore_n 1, 1) := by decide +kernel
theorem dX6_allFolk_2 : decode cX6_allFolk 2 = .ok (.iconst 0, 1) := by decide +kernel
theorem dX6_allFolk_3 : decode cX6_allFolk 3 = .ok (.istore_n 2, 1) := by decide +kernel
theorem dX6_allFolk_4 : decode cX6_allFolk 4 = .ok (.iload_n 2, 1) := by decide +kernel
theorem dX6_allFolk_5 : decode cX6_allFolk 5 = .ok (.aload_n 0, 1) := by decide +kernel
theorem dX6_allFolk_6 : decode cX6_allFolk 6 = .ok (.getfield 35, 3) := by decide +kernel
theorem dX6_allFolk_9 : decode cX6_allFolk 9 = .ok (.if_icmp .ge 18, 3) := by decide +kernel
theorem dX6_allFolk_12 : decode cX6_allFolk 12 = .ok (.iload_n 1, 1) := by decide +kernel
theorem dX6_allFolk_13 : decode cX6_allFolk 13 = .ok (.aload_n 0, 1) := by decide +kernel
theorem dX6_allFolk_14 : decode cX6_allFolk 14 = .ok (.getfield 28, 3) := by decide +kernel
theorem dX6_allFolk_17 : decode cX6_allFolk 17 = .ok (.iload_n 2, 1) := by decide +kernel
theorem dX6_allFolk_18 : decode cX6_allFolk 18 = .ok (.iaload, 1) := by decide +kernel
theorem dX6_allFolk_19 : decode cX6_allFolk 19 = .ok (.iadd, 1) := by decide +kernel
theorem dX6_allFolk_20 : decode cX6_allFolk 20 = .ok (.istore_n 1, 1) := by decide +kernel
theorem dX6_allFolk_21 : decode cX6_allFolk 21 = .ok (.iinc 2 1, 3) := by decide +kernel
theorem dX6_allFolk_24 : decode cX6_allFolk 24 = .ok (.goto (-20), 3) := by decide +kernel
theorem dX6_allFolk_27 : decode cX6_allFolk 27 = .ok (.iload_n 1, 1) := by decide +kernel
theorem dX6_allFolk_28 : decode cX6_allFolk 28 = .ok (.ireturn, 1) := by decide +kernel
theorem dX6_brokenOnes_0 : decode cX6_brokenOnes 0 = .ok (.iconst 0, 1) := by decide +kernel
theorem dX6_brokenOnes_1 : decode cX6_brokenOnes 1 = .ok (.istore_n 1, 1) := by decide +kernel
theorem dX6_brokenOnes_2 : decode cX6_brokenOnes 2 = .ok (.iconst 0, 1) := by decide +kernel
theorem dX6_brokenOnes_3 : decode cX6_brokenOnes 3 = .ok (.istore_n 2, 1) := by decide +kernel
theorem dX6_brokenOnes_4 : decode cX6_brokenOnes 4 = .ok (.iload_n 2, 1) := by decide +kernel
theorem dX6_brokenOnes_5 : decode cX6_brokenOnes 5 = .ok (.aload_n 0, 1) := by decide +kernel
theorem dX6_brokenOnes_6 : decode cX6_brokenOnes 6 = .ok (.getfield 31, 3) := by decide +kernel
theorem dX6_brokenOnes_9 : decode cX6_brokenOnes 9 = .ok (.if_icmp .ge 18, 3) := by decide +kernel
theorem dX6_brokenOnes_12 : decode cX6_brokenOnes 12 = .ok (.iload_n 1, 1) := by decide +kernel
theorem dX6_brokenOnes_13 : decode cX6_brokenOnes 13 = .ok (.aload_n 0, 1) := by decide +kernel
theorem dX6_brokenOnes_14 : decode cX6_brokenOnes 14 = .ok (.getfield 16, 3) := by decide +kernel
theorem dX6_brokenOnes_17 : decode cX6_brokenOnes 17 = .ok (.iload_n 2, 1) := by decide +kernel
theorem dX6_brokenOnes_18 : decode cX6_brokenOnes 18 = .ok (.iaload, 1) := by decide +kernel
theorem dX6_brokenOnes_19 : decode cX6_brokenOnes 19 = .ok (.iadd, 1) := by decide +kernel
theorem dX6_brokenOnes_20 : decode cX6_brokenOnes 20 = .ok (.istore_n 1, 1) := by decide +kernel
theorem dX6_brokenOnes_21 : decode cX6_brokenOnes 21 = .ok (.iinc 2 1, 3) := by decide +kernel
theorem dX6_brokenOnes_24 : decode cX6_brokenOnes 24 = .ok (.goto (-20), 3) := by decide +kernel
theorem dX6_brokenOnes_27 : decode cX6_brokenOnes 27 = .ok (.iload_n 1, 1) := by decide +kernel
theorem dX6_brokenOnes_28 : decode cX6_brokenOnes 28 = .ok (.ireturn, 1) := by decide +kernel
theorem dX7_init_0 : decode cX7_init 0 = .ok (.aload_n 0, 1) := by decide +kernel
theorem dX7_init_1 : decode cX7_init 1 = .ok (.invokespecial 3, 3) := by decide +kernel
theorem dX7_init_4 : decode cX7_init 4 = .ok (.aload_n 0, 1) := by decide +kernel
theorem dX7_init_5 : decode cX7_init 5 = .ok (.iconst 5, 1) := by decide +kernel
theorem dX7_init_6 : decode cX7_init 6 = .ok (.newarray .int, 2) := by decide +kernel
theorem dX7_init_8 : decode cX7_init 8 = .ok (.putfield 11, 3) := by decide +kernel
theorem dX7_init_11 : decode cX7_init 11 = .ok (.return_, 1) := by decide +kernel
theorem dX7_forget_0 : decode cX7_forget 0 = .ok (.aload_n 0, 1) := by decide +kernel
theorem dX7_forget_1 : decode cX7_forget 1 = .ok (.iconst 0, 1) := by decide +kernel
theorem dX7_forget_2 : decode cX7_forget 2 = .ok (.putfield 17, 3) := by decide +kernel
theorem dX7_forget_5 : decode cX7_forget 5 = .ok (.return_, 1) := by decide +kernel
theorem dX7_rounds_0 : decode cX7_rounds 0 = .ok (.aload_n 0, 1) := by decide +kernel
theorem dX7_rounds_1 : decode cX7_rounds 1 = .ok (.getfield 21, 3) := by decide +kernel
theorem dX7_rounds_4 : decode cX7_rounds 4 = .ok (.ireturn, 1) := by decide +kernel
theorem dX7_askedBehind_0 : decode cX7_askedBehind 0 = .ok (.iload_n 1, 1) := by decide +kernel
theorem dX7_askedBehind_1 : decode cX7_askedBehind 1 = .ok (.invokestatic 25, 3) := by decide +kernel
theorem dX7_askedBehind_4 : decode cX7_askedBehind 4 = .ok (.ifCond .eq 12, 3) := by decide +kernel
theorem dX7_askedBehind_7 : decode cX7_askedBehind 7 = .ok (.aload_n 0, 1) := by decide +kernel
theorem dX7_askedBehind_8 : decode cX7_askedBehind 8 = .ok (.getfield 11, 3) := by decide +kernel
theorem dX7_askedBehind_11 : decode cX7_askedBehind 11 = .ok (.iload_n 1, 1) := by decide +kernel
theorem dX7_askedBehind_12 : decode cX7_askedBehind 12 = .ok (.iaload, 1) := by decide +kernel
theorem dX7_askedBehind_13 : decode cX7_askedBehind 13 = .ok (.goto 5, 3) := by decide +kernel
theorem dX7_askedBehind_16 : decode cX7_askedBehind 16 = .ok (.ldc 29, 2) := by decide +kernel
theorem dX7_askedBehind_18 : decode cX7_askedBehind 18 = .ok (.ireturn, 1) := by decide +kernel
theorem dX7_play_0 : decode cX7_play 0 = .ok (.aload_n 0, 1) := by decide +kernel
theorem dX7_play_1 : decode cX7_play 1 = .ok (.getfield 17, 3) := by decide +kernel
theorem dX7_play_4 : decode cX7_play 4 = .ok (.ifCond .eq 4, 3) := by decide +kernel
theorem dX7_play_7 : decode cX7_play 7 = .ok (.return_, 1) := by decide +kernel
theorem dX7_play_8 : decode cX7_play 8 = .ok (.aload_n 0, 1) := by decide +kernel
theorem dX7_play_9 : decode cX7_play 9 = .ok (.iconst 1, 1) := by decide +kernel
theorem dX7_play_10 : decode cX7_play 10 = .ok (.putfield 17, 3) := by decide +kernel
theorem dX7_play_13 : decode cX7_play 13 = .ok (.aload_n 0, 1) := by decide +kernel
theorem dX7_play_14 : decode cX7_play 14 = .ok (.ldc 29, 2) := by decide +kernel
theorem dX7_play_16 : decode cX7_play 16 = .ok (.putfield 21, 3) := by decide +kernel
theorem dX7_play_19 : decode cX7_play 19 = .ok (.aload_n 2, 1) := by decide +kernel
theorem dX7_play_20 : decode cX7_play 20 = .ok (.aload_n 1, 1) := by decide +kernel
theorem dX7_play_21 : decode cX7_play 21 = .ok (.invokevirtual 30, 3) := by decide +kernel
theorem dX7_play_24 : decode cX7_play 24 = .ok (.iconst 1, 1) := by decide +kernel
theorem dX7_play_25 : decode cX7_play 25 = .ok (.istore 4, 2) := by decide +kernel
theorem dX7_play_27 : decode cX7_play 27 = .ok (.iload 4, 2) := by decide +kernel
theorem dX7_play_29 : decode cX7_play 29 = .ok (.bipush 20, 2) := by decide +kernel
theorem dX7_play_31 : decode cX7_play 31 = .ok (.if_icmp .gt 33, 3) := by decide +kernel
theorem dX7_play_34 : decode cX7_play 34 = .ok (.aload_n 0, 1) := by decide +kernel
theorem dX7_play_35 : decode cX7_play 35 = .ok (.getfield 21, 3) := by decide +kernel
theorem dX7_play_38 : decode cX7_play 38 = .ok (.ldc 29, 2) := by decide +kernel
theorem dX7_play_40 : decode cX7_play 40 = .ok (.if_icmp .ne 24, 3) := by decide +kernel
theorem dX7_play_43 : decode cX7_play 43 = .ok (.aload_n 0, 1) := by decide +kernel
theorem dX7_play_44 : decode cX7_play 44 = .ok (.aload_n 2, 1) := by decide +kernel
theorem dX7_play_45 : decode cX7_play 45 = .ok (.aload_n 3, 1) := by decide +kernel
theorem dX7_play_46 : decode cX7_play 46 = .ok (.invokevirtual 34, 3) := by decide +kernel
theorem dX7_play_49 : decode cX7_play 49 = .ok (.ifCond .ne 9, 3) := by decide +kernel
theorem dX7_play_52 : decode cX7_play 52 = .ok (.aload_n 0, 1) := by decide +kernel
theorem dX7_play_53 : decode cX7_play 53 = .ok (.iload 4, 2) := by decide +kernel
theorem dX7_play_55 : decode cX7_play 55 = .ok (.putfield 21, 3) := by decide +kernel
theorem dX7_play_58 : decode cX7_play 58 = .ok (.iinc 4 1, 3) := by decide +kernel
theorem dX7_play_61 : decode cX7_play 61 = .ok (.goto (-34), 3) := by decide +kernel
theorem dX7_play_64 : decode cX7_play 64 = .ok (.return_, 1) := by decide +kernel
theorem dX7_isChangedInRound_0 : decode cX7_isChangedInRound 0 = .ok (.iconst 0, 1) := by decide +kernel
theorem dX7_isChangedInRound_1 : decode cX7_isChangedInRound 1 = .ok (.istore_n 3, 1) := by decide +kernel
theorem dX7_isChangedInRound_2 : decode cX7_isChangedInRound 2 = .ok (.iconst 0, 1) := by decide +kernel
theorem dX7_isChangedInRound_3 : decode cX7_isChangedInRound 3 = .ok (.istore 4, 2) := by decide +kernel
theorem dX7_isChangedInRound_5 : decode cX7_isChangedInRound 5 = .ok (.iload 4, 2) := by decide +kernel
theorem dX7_isChangedInRound_7 : decode cX7_isChangedInRound 7 = .ok (.iconst 5, 1) := by decide +kernel
theorem dX7_isChangedInRound_8 : decode cX7_isChangedInRound 8 = .ok (.if_icmp .ge 81, 3) := by decide +kernel
theorem dX7_isChangedInRound_11 : decode cX7_isChangedInRound 11 = .ok (.aload_n 0, 1) := by decide +kernel
theorem dX7_isChangedInRound_12 : decode cX7_isChangedInRound 12 = .ok (.getfield 11, 3) := by decide +kernel
theorem dX7_isChangedInRound_15 : decode cX7_isChangedInRound 15 = .ok (.iload 4, 2) := by decide +kernel
theorem dX7_isChangedInRound_17 : decode cX7_isChangedInRound 17 = .ok (.ldc 29, 2) := by decide +kernel
theorem dX7_isChangedInRound_19 : decode cX7_isChangedInRound 19 = .ok (.iastore, 1) := by decide +kernel
theorem dX7_isChangedInRound_20 : decode cX7_isChangedInRound 20 = .ok (.aload_n 1, 1) := by decide +kernel
theorem dX7_isChangedInRound_21 : decode cX7_isChangedInRound 21 = .ok (.iconst 1, 1) := by decide +kernel
theorem dX7_isChangedInRound_22 : decode cX7_isChangedInRound 22 = .ok (.iload 4, 2) := by decide +kernel
theorem dX7_isChangedInRound_24 : decode cX7_isChangedInRound 24 = .ok (.ishl, 1) := by decide +kernel
theorem dX7_isChangedInRound_25 : decode cX7_isChangedInRound 25 = .ok (.invokevirtual 38, 3) := by decide +kernel
theorem dX7_isChangedInRound_28 : decode cX7_isChangedInRound 28 = .ok (.ifCond .eq 55, 3) := by decide +kernel
theorem dX7_isChangedInRound_31 : decode cX7_isChangedInRound 31 = .ok (.aload_n 1, 1) := by decide +kernel
theorem dX7_isChangedInRound_32 : decode cX7_isChangedInRound 32 = .ok (.iconst 1, 1) := by decide +kernel
theorem dX7_isChangedInRound_33 : decode cX7_isChangedInRound 33 = .ok (.iload 4, 2) := by decide +kernel
theorem dX7_isChangedInRound_35 : decode cX7_isChangedInRound 35 = .ok (.ishl, 1) := by decide +kernel
theorem dX7_isChangedInRound_36 : decode cX7_isChangedInRound 36 = .ok (.invokestatic 41, 3) := by decide +kernel
theorem dX7_isChangedInRound_39 : decode cX7_isChangedInRound 39 = .ok (.istore 5, 2) := by decide +kernel
theorem dX7_isChangedInRound_41 : decode cX7_isChangedInRound 41 = .ok (.aload_n 2, 1) := by decide +kernel
theorem dX7_isChangedInRound_42 : decode cX7_isChangedInRound 42 = .ok (.aload_n 1, 1) := by decide +kernel
theorem dX7_isChangedInRound_43 : decode cX7_isChangedInRound 43 = .ok (.iconst 1, 1) := by decide +kernel
theorem dX7_isChangedInRound_44 : decode cX7_isChangedInRound 44 = .ok (.iload 4, 2) := by decide +kernel
theorem dX7_isChangedInRound_46 : decode cX7_isChangedInRound 46 = .ok (.ishl, 1) := by decide +kernel
theorem dX7_isChangedInRound_47 : decode cX7_isChangedInRound 47 = .ok (.invokevirtual 45, 3) := by decide +kernel
theorem dX7_isChangedInRound_50 : decode cX7_isChangedInRound 50 = .ok (.aload_n 0, 1) := by decide +kernel
theorem dX7_isChangedInRound_51 : decode cX7_isChangedInRound 51 = .ok (.getfield 11, 3) := by decide +kernel
theorem dX7_isChangedInRound_54 : decode cX7_isChangedInRound 54 = .ok (.iload 4, 2) := by decide +kernel
theorem dX7_isChangedInRound_56 : decode cX7_isChangedInRound 56 = .ok (.aload_n 2, 1) := by decide +kernel
theorem dX7_isChangedInRound_57 : decode cX7_isChangedInRound 57 = .ok (.invokevirtual 51, 3) := by decide +kernel
theorem dX7_isChangedInRound_60 : decode cX7_isChangedInRound 60 = .ok (.iastore, 1) := by decide +kernel
theorem dX7_isChangedInRound_61 : decode cX7_isChangedInRound 61 = .ok (.iload_n 3, 1) := by decide +kernel
theorem dX7_isChangedInRound_62 : decode cX7_isChangedInRound 62 = .ok (.ifCond .ne 15, 3) := by decide +kernel
theorem dX7_isChangedInRound_65 : decode cX7_isChangedInRound 65 = .ok (.aload_n 0, 1) := by decide +kernel
theorem dX7_isChangedInRound_66 : decode cX7_isChangedInRound 66 = .ok (.getfield 11, 3) := by decide +kernel
theorem dX7_isChangedInRound_69 : decode cX7_isChangedInRound 69 = .ok (.iload 4, 2) := by decide +kernel
theorem dX7_isChangedInRound_71 : decode cX7_isChangedInRound 71 = .ok (.iaload, 1) := by decide +kernel
theorem dX7_isChangedInRound_72 : decode cX7_isChangedInRound 72 = .ok (.iload 5, 2) := by decide +kernel
theorem dX7_isChangedInRound_74 : decode cX7_isChangedInRound 74 = .ok (.if_icmp .eq 7, 3) := by decide +kernel
theorem dX7_isChangedInRound_77 : decode cX7_isChangedInRound 77 = .ok (.iconst 1, 1) := by decide +kernel
theorem dX7_isChangedInRound_78 : decode cX7_isChangedInRound 78 = .ok (.goto 4, 3) := by decide +kernel
theorem dX7_isChangedInRound_81 : decode cX7_isChangedInRound 81 = .ok (.iconst 0, 1) := by decide +kernel
theorem dX7_isChangedInRound_82 : decode cX7_isChangedInRound 82 = .ok (.istore_n 3, 1) := by decide +kernel
theorem dX7_isChangedInRound_83 : decode cX7_isChangedInRound 83 = .ok (.iinc 4 1, 3) := by decide +kernel
theorem dX7_isChangedInRound_86 : decode cX7_isChangedInRound 86 = .ok (.goto (-81), 3) := by decide +kernel
theorem dX7_isChangedInRound_89 : decode cX7_isChangedInRound 89 = .ok (.iload_n 3, 1) := by decide +kernel
theorem dX7_isChangedInRound_90 : decode cX7_isChangedInRound 90 = .ok (.ireturn, 1) := by decide +kernel
theorem dX7_commonAsking_0 : decode cX7_commonAsking 0 = .ok (.iconst 0, 1) := by decide +kernel
theorem dX7_commonAsking_1 : decode cX7_commonAsking 1 = .ok (.istore_n 2, 1) := by decide +kernel
theorem dX7_commonAsking_2 : decode cX7_commonAsking 2 = .ok (.iload_n 2, 1) := by decide +kernel
theorem dX7_commonAsking_3 : decode cX7_commonAsking 3 = .ok (.bipush 20, 2) := by decide +kernel
theorem dX7_commonAsking_5 : decode cX7_commonAsking 5 = .ok (.if_icmp .gt 20, 3) := by decide +kernel
theorem dX7_commonAsking_8 : decode cX7_commonAsking 8 = .ok (.aload_n 0, 1) := by decide +kernel
theorem dX7_commonAsking_9 : decode cX7_commonAsking 9 = .ok (.iload_n 1, 1) := by decide +kernel
theorem dX7_commonAsking_10 : decode cX7_commonAsking 10 = .ok (.iload_n 2, 1) := by decide +kernel
theorem dX7_commonAsking_11 : decode cX7_commonAsking 11 = .ok (.invokevirtual 55, 3) := by decide +kernel
theorem dX7_commonAsking_14 : decode cX7_commonAsking 14 = .ok (.ifCond .eq 5, 3) := by decide +kernel
theorem dX7_commonAsking_17 : decode cX7_commonAsking 17 = .ok (.iload_n 2, 1) := by decide +kernel
theorem dX7_commonAsking_18 : decode cX7_commonAsking 18 = .ok (.ireturn, 1) := by decide +kernel
theorem dX7_commonAsking_19 : decode cX7_commonAsking 19 = .ok (.iinc 2 1, 3) := by decide +kernel
theorem dX7_commonAsking_22 : decode cX7_commonAsking 22 = .ok (.goto (-20), 3) := by decide +kernel
theorem dX7_commonAsking_25 : decode cX7_commonAsking 25 = .ok (.ldc 29, 2) := by decide +kernel
theorem dX7_commonAsking_27 : decode cX7_commonAsking 27 = .ok (.ireturn, 1) := by decide +kernel
theorem dX8_init_0 : decode cX8_init 0 = .ok (.aload_n 0, 1) := by decide +kernel
theorem dX8_init_1 : decode cX8_init 1 = .ok (.invokespecial 1, 3) := by decide +kernel
theorem dX8_init_4 : decode cX8_init 4 = .ok (.aload_n 0, 1) := by decide +kernel
theorem dX8_init_5 : decode cX8_init 5 = .ok (.new 7, 3) := by decide +kernel
theorem dX8_init_8 : decode cX8_init 8 = .ok (.dup, 1) := by decide +kernel
theorem dX8_init_9 : decode cX8_init 9 = .ok (.invokespecial 9, 3) := by decide +kernel
theorem dX8_init_12 : decode cX8_init 12 = .ok (.putfield 10, 3) := by decide +kernel
theorem dX8_init_15 : decode cX8_init 15 = .ok (.aload_n 0, 1) := by decide +kernel
theorem dX8_init_16 : decode cX8_init 16 = .ok (.new 16, 3) := by decide +kernel
theorem dX8_init_19 : decode cX8_init 19 = .ok (.dup, 1) := by decide +kernel
theorem dX8_init_20 : decode cX8_init 20 = .ok (.invokespecial 18, 3) := by decide +kernel
theorem dX8_init_23 : decode cX8_init 23 = .ok (.putfield 19, 3) := by decide +kernel
theorem dX8_init_26 : decode cX8_init 26 = .ok (.aload_n 0, 1) := by decide +kernel
theorem dX8_init_27 : decode cX8_init 27 = .ok (.new 23, 3) := by decide +kernel
theorem dX8_init_30 : decode cX8_init 30 = .ok (.dup, 1) := by decide +kernel
theorem dX8_init_31 : decode cX8_init 31 = .ok (.invokespecial 25, 3) := by decide +kernel
theorem dX8_init_34 : decode cX8_init 34 = .ok (.putfield 26, 3) := by decide +kernel
theorem dX8_init_37 : decode cX8_init 37 = .ok (.aload_n 0, 1) := by decide +kernel
theorem dX8_init_38 : decode cX8_init 38 = .ok (.new 23, 3) := by decide +kernel
theorem dX8_init_41 : decode cX8_init 41 = .ok (.dup, 1) := by decide +kernel
theorem dX8_init_42 : decode cX8_init 42 = .ok (.invokespecial 25, 3) := by decide +kernel
theorem dX8_init_45 : decode cX8_init 45 = .ok (.putfield 30, 3) := by decide +kernel
theorem dX8_init_48 : decode cX8_init 48 = .ok (.aload_n 0, 1) := by decide +kernel
theorem dX8_init_49 : decode cX8_init 49 = .ok (.new 23, 3) := by decide +kernel
theorem dX8_init_52 : decode cX8_init 52 = .ok (.dup, 1) := by decide +kernel
theorem dX8_init_53 : decode cX8_init 53 = .ok (.invokespecial 25, 3) := by decide +kernel
theorem dX8_init_56 : decode cX8_init 56 = .ok (.putfield 33, 3) := by decide +kernel
theorem dX8_init_59 : decode cX8_init 59 = .ok (.aload_n 0, 1) := by decide +kernel
theorem dX8_init_60 : decode cX8_init 60 = .ok (.iconst 2, 1) := by decide +kernel
theorem dX8_init_61 : decode cX8_init 61 = .ok (.anewarray 23, 3) := by decide +kernel
theorem dX8_init_64 : decode cX8_init 64 = .ok (.putfield 36, 3) := by decide +kernel
theorem dX8_init_67 : decode cX8_init 67 = .ok (.iconst 0, 1) := by decide +kernel
theorem dX8_init_68 : decode cX8_init 68 = .ok (.istore_n 1, 1) := by decide +kernel
theorem dX8_init_69 : decode cX8_init 69 = .ok (.iload_n 1, 1) := by decide +kernel
theorem dX8_init_70 : decode cX8_init 70 = .ok (.iconst 2, 1) := by decide +kernel
theorem dX8_init_71 : decode cX8_init 71 = .ok (.if_icmp .ge 22, 3) := by decide +kernel
theorem dX8_init_74 : decode cX8_init 74 = .ok (.aload_n 0, 1) := by decide +kernel
theorem dX8_init_75 : decode cX8_init 75 = .ok (.getfield 36, 3) := by decide +kernel
theorem dX8_init_78 : decode cX8_init 78 = .ok (.iload_n 1, 1) := by decide +kernel
theorem dX8_init_79 : decode cX8_init 79 = .ok (.new 23, 3) := by decide +kernel
theorem dX8_init_82 : decode cX8_init 82 = .ok (.dup, 1) := by decide +kernel
theorem dX8_init_83 : decode cX8_init 83 = .ok (.invokespecial 25, 3) := by decide +kernel
theorem dX8_init_86 : decode cX8_init 86 = .ok (.aastore, 1) := by decide +kernel
theorem dX8_init_87 : decode cX8_init 87 = .ok (.iinc 1 1, 3) := by decide +kernel
theorem dX8_init_90 : decode cX8_init 90 = .ok (.goto (-21), 3) := by decide +kernel
theorem dX8_init_93 : decode cX8_init 93 = .ok (.aload_n 0, 1) := by decide +kernel
theorem dX8_init_94 : decode cX8_init 94 = .ok (.new 40, 3) := by decide +kernel
theorem dX8_init_97 : decode cX8_init 97 = .ok (.dup, 1) := by decide +kernel
theorem dX8_init_98 : decode cX8_init 98 = .ok (.invokespecial 42, 3) := by decide +kernel
theorem dX8_init_101 : decode cX8_init 101 = .ok (.putfield 43, 3) := by decide +kernel
theorem dX8_init_104 : decode cX8_init 104 = .ok (.aload_n 0, 1) := by decide +kernel
theorem dX8_init_105 : decode cX8_init 105 = .ok (.new 47, 3) := by decide +kernel
theorem dX8_init_108 : decode cX8_init 108 = .ok (.dup, 1) := by decide +kernel
theorem dX8_init_109 : decode cX8_init 109 = .ok (.invokespecial 49, 3) := by decide +kernel
theorem dX8_init_112 : decode cX8_init 112 = .ok (.putfield 50, 3) := by decide +kernel
theorem dX8_init_115 : decode cX8_init 115 = .ok (.aload_n 0, 1) := by decide +kernel
theorem dX8_init_116 : decode cX8_init 116 = .ok (.new 54, 3) := by decide +kernel
theorem dX8_init_119 : decode cX8_init 119 = .ok (.dup, 1) := by decide +kernel
theorem dX8_init_120 : decode cX8_init 120 = .ok (.invokespecial 56, 3) := by decide +kernel
theorem dX8_init_123 : decode cX8_init 123 = .ok (.putfield 57, 3) := by decide +kernel
theorem dX8_init_126 : decode cX8_init 126 = .ok (.aload_n 0, 1) := by decide +kernel
theorem dX8_init_127 : decode cX8_init 127 = .ok (.new 61, 3) := by decide +kernel
theorem dX8_init_130 : decode cX8_init 130 = .ok (.dup, 1) := by decide +kernel
theorem dX8_init_131 : decode cX8_init 131 = .ok (.invokespecial 63, 3) := by decide +kernel
theorem dX8_init_134 : decode cX8_init 134 = .ok (.putfield 64, 3) := by decide +kernel
theorem dX8_init_137 : decode cX8_init 137 = .ok (.aload_n 0, 1) := by decide +kernel
theorem dX8_init_138 : decode cX8_init 138 = .ok (.new 68, 3) := by decide +kernel
theorem dX8_init_141 : decode cX8_init 141 = .ok (.dup, 1) := by decide +kernel
theorem dX8_init_142 : decode cX8_init 142 = .ok (.invokespecial 70, 3) := by decide +kernel
theorem dX8_init_145 : decode cX8_init 145 = .ok (.putfield 71, 3) := by decide +kernel
theorem dX8_init_148 : decode cX8_init 148 = .ok (.aload_n 0, 1) := by decide +kernel
theorem dX8_init_149 : decode cX8_init 149 = .ok (.iconst 0, 1) := by decide +kernel
theorem dX8_init_150 : decode cX8_init 150 = .ok (.putfield 75, 3) := by decide +kernel
theorem dX8_init_153 : decode cX8_init 153 = .ok (.aload_n 0, 1) := by decide +kernel
theorem dX8_init_154 : decode cX8_init 154 = .ok (.iconst 0, 1) := by decide +kernel
theorem dX8_init_155 : decode cX8_init 155 = .ok (.putfield 79, 3) := by decide +kernel
theorem dX8_init_158 : decode cX8_init 158 = .ok (.return_, 1) := by decide +kernel
theorem dX8_row_0 : decode cX8_row 0 = .ok (.aload_n 0, 1) := by decide +kernel
theorem dX8_row_1 : decode cX8_row 1 = .ok (.getfield 10, 3) := by decide +kernel
theorem dX8_row_4 : decode cX8_row 4 = .ok (.iload_n 1, 1) := by decide +kernel
theorem dX8_row_5 : decode cX8_row 5 = .ok (.invokevirtual 82, 3) := by decide +kernel
theorem dX8_row_8 : decode cX8_row 8 = .ok (.ifCond .eq 18, 3) := by decide +kernel
theorem dX8_row_11 : decode cX8_row 11 = .ok (.iload_n 2, 1) := by decide +kernel
theorem dX8_row_12 : decode cX8_row 12 = .ok (.ifCond .lt 14, 3) := by decide +kernel
theorem dX8_row_15 : decode cX8_row 15 = .ok (.iload_n 2, 1) := by decide +kernel
theorem dX8_row_16 : decode cX8_row 16 = .ok (.iconst 3, 1) := by decide +kernel
theorem dX8_row_17 : decode cX8_row 17 = .ok (.if_icmp .ge 9, 3) := by decide +kernel
theorem dX8_row_20 : decode cX8_row 20 = .ok (.iload_n 3, 1) := by decide +kernel
theorem dX8_row_21 : decode cX8_row 21 = .ok (.bipush 40, 2) := by decide +kernel
theorem dX8_row_23 : decode cX8_row 23 = .ok (.if_icmp .le 6, 3) := by decide +kernel
theorem dX8_row_26 : decode cX8_row 26 = .ok (.ldc 86, 2) := by decide +kernel
theorem dX8_row_28 : decode cX8_row 28 = .ok (.ireturn, 1) := by decide +kernel
theorem dX8_row_29 : decode cX8_row 29 = .ok (.iload_n 3, 1) := by decide +kernel
theorem dX8_row_30 : decode cX8_row 30 = .ok (.ifCond .ge 9, 3) := by decide +kernel
theorem dX8_row_33 : decode cX8_row 33 = .ok (.aload_n 0, 1) := by decide +kernel
theorem dX8_row_34 : decode cX8_row 34 = .ok (.iconst 4, 1) := by decide +kernel
theorem dX8_row_35 : decode cX8_row 35 = .ok (.invokevirtual 87, 3) := by decide +kernel
theorem dX8_row_38 : decode cX8_row 38 = .ok (.ireturn, 1) := by decide +kernel
theorem dX8_row_39 : decode cX8_row 39 = .ok (.aload_n 0, 1) := by decide +kernel
theorem dX8_row_40 : decode cX8_row 40 = .ok (.getfield 10, 3) := by decide +kernel
theorem dX8_row_43 : decode cX8_row 43 = .ok (.iload_n 1, 1) := by decide +kernel
theorem dX8_row_44 : decode cX8_row 44 = .ok (.iload_n 2, 1) := by decide +kernel
theorem dX8_row_45 : decode cX8_row 45 = .ok (.iload_n 3, 1) := by decide +kernel
theorem dX8_row_46 : decode cX8_row 46 = .ok (.invokevirtual 91, 3) := by decide +kernel
theorem dX8_row_49 : decode cX8_row 49 = .ok (.aload_n 0, 1) := by decide +kernel
theorem dX8_row_50 : decode cX8_row 50 = .ok (.iload_n 3, 1) := by decide +kernel
theorem dX8_row_51 : decode cX8_row 51 = .ok (.invokevirtual 95, 3) := by decide +kernel
theorem dX8_row_54 : decode cX8_row 54 = .ok (.ireturn, 1) := by decide +kernel
theorem dX8_set_0 : decode cX8_set 0 = .ok (.aload_n 0, 1) := by decide +kernel
theorem dX8_set_1 : decode cX8_set 1 = .ok (.getfield 10, 3) := by decide +kernel
theorem dX8_set_4 : decode cX8_set 4 = .ok (.iload_n 1, 1) := by decide +kernel
theorem dX8_set_5 : decode cX8_set 5 = .ok (.invokevirtual 82, 3) := by decide +kernel
