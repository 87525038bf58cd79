theorem dX9_isBroken_9 : decode cX9_isBroken 9 = .ok (.iconst 2, 1) := by decide +kernel
theorem dX9_isBroken_10 : decode cX9_isBroken 10 = .ok (.iadd, 1) := by decide +kernel
theorem dX9_isBroken_11 : decode cX9_isBroken 11 = .ok (.iaload, 1) := by decide +kernel
theorem dX9_isBroken_12 : decode cX9_isBroken 12 = .ok (.iconst 1, 1) := by decide +kernel
theorem dX9_isBroken_13 : decode cX9_isBroken 13 = .ok (.if_icmp .ne 7, 3) := by decide +kernel
theorem dX9_isBroken_16 : decode cX9_isBroken 16 = .ok (.iconst 1, 1) := by decide +kernel
theorem dX9_isBroken_17 : decode cX9_isBroken 17 = .ok (.goto 4, 3) := by decide +kernel
theorem dX9_isBroken_20 : decode cX9_isBroken 20 = .ok (.iconst 0, 1) := by decide +kernel
theorem dX9_isBroken_21 : decode cX9_isBroken 21 = .ok (.ireturn, 1) := by decide +kernel
theorem dX9_keep_0 : decode cX9_keep 0 = .ok (.aload_n 0, 1) := by decide +kernel
theorem dX9_keep_1 : decode cX9_keep 1 = .ok (.getfield 174, 3) := by decide +kernel
theorem dX9_keep_4 : decode cX9_keep 4 = .ok (.bipush 24, 2) := by decide +kernel
theorem dX9_keep_6 : decode cX9_keep 6 = .ok (.if_icmp .ne 43, 3) := by decide +kernel
theorem dX9_keep_9 : decode cX9_keep 9 = .ok (.iconst 0, 1) := by decide +kernel
theorem dX9_keep_10 : decode cX9_keep 10 = .ok (.istore_n 1, 1) := by decide +kernel
theorem dX9_keep_11 : decode cX9_keep 11 = .ok (.iload_n 1, 1) := by decide +kernel
theorem dX9_keep_12 : decode cX9_keep 12 = .ok (.sipush 1840, 3) := by decide +kernel
theorem dX9_keep_15 : decode cX9_keep 15 = .ok (.if_icmp .ge 24, 3) := by decide +kernel
theorem dX9_keep_18 : decode cX9_keep 18 = .ok (.aload_n 0, 1) := by decide +kernel
theorem dX9_keep_19 : decode cX9_keep 19 = .ok (.getfield 25, 3) := by decide +kernel
theorem dX9_keep_22 : decode cX9_keep 22 = .ok (.iload_n 1, 1) := by decide +kernel
theorem dX9_keep_23 : decode cX9_keep 23 = .ok (.aload_n 0, 1) := by decide +kernel
theorem dX9_keep_24 : decode cX9_keep 24 = .ok (.getfield 25, 3) := by decide +kernel
theorem dX9_keep_27 : decode cX9_keep 27 = .ok (.iload_n 1, 1) := by decide +kernel
theorem dX9_keep_28 : decode cX9_keep 28 = .ok (.bipush 80, 2) := by decide +kernel
theorem dX9_keep_30 : decode cX9_keep 30 = .ok (.iadd, 1) := by decide +kernel
theorem dX9_keep_31 : decode cX9_keep 31 = .ok (.iaload, 1) := by decide +kernel
theorem dX9_keep_32 : decode cX9_keep 32 = .ok (.iastore, 1) := by decide +kernel
theorem dX9_keep_33 : decode cX9_keep 33 = .ok (.iinc 1 1, 3) := by decide +kernel
theorem dX9_keep_36 : decode cX9_keep 36 = .ok (.goto (-25), 3) := by decide +kernel
theorem dX9_keep_39 : decode cX9_keep 39 = .ok (.aload_n 0, 1) := by decide +kernel
theorem dX9_keep_40 : decode cX9_keep 40 = .ok (.dup, 1) := by decide +kernel
theorem dX9_keep_41 : decode cX9_keep 41 = .ok (.getfield 174, 3) := by decide +kernel
theorem dX9_keep_44 : decode cX9_keep 44 = .ok (.iconst 1, 1) := by decide +kernel
theorem dX9_keep_45 : decode cX9_keep 45 = .ok (.isub, 1) := by decide +kernel
theorem dX9_keep_46 : decode cX9_keep 46 = .ok (.putfield 174, 3) := by decide +kernel
theorem dX9_keep_49 : decode cX9_keep 49 = .ok (.iconst 0, 1) := by decide +kernel
theorem dX9_keep_50 : decode cX9_keep 50 = .ok (.istore_n 1, 1) := by decide +kernel
theorem dX9_keep_51 : decode cX9_keep 51 = .ok (.iload_n 1, 1) := by decide +kernel
theorem dX9_keep_52 : decode cX9_keep 52 = .ok (.bipush 80, 2) := by decide +kernel
theorem dX9_keep_54 : decode cX9_keep 54 = .ok (.if_icmp .ge 29, 3) := by decide +kernel
theorem dX9_keep_57 : decode cX9_keep 57 = .ok (.aload_n 0, 1) := by decide +kernel
theorem dX9_keep_58 : decode cX9_keep 58 = .ok (.getfield 25, 3) := by decide +kernel
theorem dX9_keep_61 : decode cX9_keep 61 = .ok (.bipush 80, 2) := by decide +kernel
theorem dX9_keep_63 : decode cX9_keep 63 = .ok (.aload_n 0, 1) := by decide +kernel
theorem dX9_keep_64 : decode cX9_keep 64 = .ok (.getfield 174, 3) := by decide +kernel
theorem dX9_keep_67 : decode cX9_keep 67 = .ok (.imul, 1) := by decide +kernel
theorem dX9_keep_68 : decode cX9_keep 68 = .ok (.iload_n 1, 1) := by decide +kernel
theorem dX9_keep_69 : decode cX9_keep 69 = .ok (.iadd, 1) := by decide +kernel
theorem dX9_keep_70 : decode cX9_keep 70 = .ok (.aload_n 0, 1) := by decide +kernel
theorem dX9_keep_71 : decode cX9_keep 71 = .ok (.getfield 19, 3) := by decide +kernel
theorem dX9_keep_74 : decode cX9_keep 74 = .ok (.iload_n 1, 1) := by decide +kernel
theorem dX9_keep_75 : decode cX9_keep 75 = .ok (.iaload, 1) := by decide +kernel
theorem dX9_keep_76 : decode cX9_keep 76 = .ok (.iastore, 1) := by decide +kernel
theorem dX9_keep_77 : decode cX9_keep 77 = .ok (.iinc 1 1, 3) := by decide +kernel
theorem dX9_keep_80 : decode cX9_keep 80 = .ok (.goto (-29), 3) := by decide +kernel
theorem dX9_keep_83 : decode cX9_keep 83 = .ok (.aload_n 0, 1) := by decide +kernel
theorem dX9_keep_84 : decode cX9_keep 84 = .ok (.dup, 1) := by decide +kernel
theorem dX9_keep_85 : decode cX9_keep 85 = .ok (.getfield 174, 3) := by decide +kernel
theorem dX9_keep_88 : decode cX9_keep 88 = .ok (.iconst 1, 1) := by decide +kernel
theorem dX9_keep_89 : decode cX9_keep 89 = .ok (.iadd, 1) := by decide +kernel
theorem dX9_keep_90 : decode cX9_keep 90 = .ok (.putfield 174, 3) := by decide +kernel
theorem dX9_keep_93 : decode cX9_keep 93 = .ok (.return_, 1) := by decide +kernel
theorem dX9_becomes_0 : decode cX9_becomes 0 = .ok (.aload_n 0, 1) := by decide +kernel
theorem dX9_becomes_1 : decode cX9_becomes 1 = .ok (.invokevirtual 179, 3) := by decide +kernel
theorem dX9_becomes_4 : decode cX9_becomes 4 = .ok (.aload_n 0, 1) := by decide +kernel
theorem dX9_becomes_5 : decode cX9_becomes 5 = .ok (.getfield 19, 3) := by decide +kernel
theorem dX9_becomes_8 : decode cX9_becomes 8 = .ok (.iconst 2, 1) := by decide +kernel
theorem dX9_becomes_9 : decode cX9_becomes 9 = .ok (.iconst 3, 1) := by decide +kernel
theorem dX9_becomes_10 : decode cX9_becomes 10 = .ok (.iload_n 1, 1) := by decide +kernel
theorem dX9_becomes_11 : decode cX9_becomes 11 = .ok (.imul, 1) := by decide +kernel
theorem dX9_becomes_12 : decode cX9_becomes 12 = .ok (.iadd, 1) := by decide +kernel
theorem dX9_becomes_13 : decode cX9_becomes 13 = .ok (.iload_n 2, 1) := by decide +kernel
theorem dX9_becomes_14 : decode cX9_becomes 14 = .ok (.iadd, 1) := by decide +kernel
theorem dX9_becomes_15 : decode cX9_becomes 15 = .ok (.iaload, 1) := by decide +kernel
theorem dX9_becomes_16 : decode cX9_becomes 16 = .ok (.istore 4, 2) := by decide +kernel
theorem dX9_becomes_18 : decode cX9_becomes 18 = .ok (.aload_n 0, 1) := by decide +kernel
theorem dX9_becomes_19 : decode cX9_becomes 19 = .ok (.getfield 19, 3) := by decide +kernel
theorem dX9_becomes_22 : decode cX9_becomes 22 = .ok (.iconst 2, 1) := by decide +kernel
theorem dX9_becomes_23 : decode cX9_becomes 23 = .ok (.iconst 3, 1) := by decide +kernel
theorem dX9_becomes_24 : decode cX9_becomes 24 = .ok (.iload_n 1, 1) := by decide +kernel
theorem dX9_becomes_25 : decode cX9_becomes 25 = .ok (.imul, 1) := by decide +kernel
theorem dX9_becomes_26 : decode cX9_becomes 26 = .ok (.iadd, 1) := by decide +kernel
theorem dX9_becomes_27 : decode cX9_becomes 27 = .ok (.iload_n 2, 1) := by decide +kernel
theorem dX9_becomes_28 : decode cX9_becomes 28 = .ok (.iadd, 1) := by decide +kernel
theorem dX9_becomes_29 : decode cX9_becomes 29 = .ok (.iload_n 3, 1) := by decide +kernel
theorem dX9_becomes_30 : decode cX9_becomes 30 = .ok (.iastore, 1) := by decide +kernel
theorem dX9_becomes_31 : decode cX9_becomes 31 = .ok (.iload 4, 2) := by decide +kernel
theorem dX9_becomes_33 : decode cX9_becomes 33 = .ok (.ireturn, 1) := by decide +kernel
theorem dX9_price_0 : decode cX9_price 0 = .ok (.aload_n 0, 1) := by decide +kernel
theorem dX9_price_1 : decode cX9_price 1 = .ok (.iconst 0, 1) := by decide +kernel
theorem dX9_price_2 : decode cX9_price 2 = .ok (.putfield 59, 3) := by decide +kernel
theorem dX9_price_5 : decode cX9_price 5 = .ok (.aload_n 0, 1) := by decide +kernel
theorem dX9_price_6 : decode cX9_price 6 = .ok (.iload_n 1, 1) := by decide +kernel
theorem dX9_price_7 : decode cX9_price 7 = .ok (.invokevirtual 182, 3) := by decide +kernel
theorem dX9_price_10 : decode cX9_price 10 = .ok (.ifCond .eq 25, 3) := by decide +kernel
theorem dX9_price_13 : decode cX9_price 13 = .ok (.iload_n 2, 1) := by decide +kernel
theorem dX9_price_14 : decode cX9_price 14 = .ok (.i2l, 1) := by decide +kernel
theorem dX9_price_15 : decode cX9_price 15 = .ok (.lconst 0, 1) := by decide +kernel
theorem dX9_price_16 : decode cX9_price 16 = .ok (.ldc2_w 185, 3) := by decide +kernel
theorem dX9_price_19 : decode cX9_price 19 = .ok (.invokestatic 69, 3) := by decide +kernel
theorem dX9_price_22 : decode cX9_price 22 = .ok (.ifCond .eq 13, 3) := by decide +kernel
theorem dX9_price_25 : decode cX9_price 25 = .ok (.aload_n 0, 1) := by decide +kernel
theorem dX9_price_26 : decode cX9_price 26 = .ok (.iload_n 1, 1) := by decide +kernel
theorem dX9_price_27 : decode cX9_price 27 = .ok (.iconst 1, 1) := by decide +kernel
theorem dX9_price_28 : decode cX9_price 28 = .ok (.iload_n 2, 1) := by decide +kernel
theorem dX9_price_29 : decode cX9_price 29 = .ok (.invokevirtual 187, 3) := by decide +kernel
theorem dX9_price_32 : decode cX9_price 32 = .ok (.goto 5, 3) := by decide +kernel
theorem dX9_price_35 : decode cX9_price 35 = .ok (.ldc 79, 2) := by decide +kernel
theorem dX9_price_37 : decode cX9_price 37 = .ok (.ireturn, 1) := by decide +kernel
theorem dX9_sell_0 : decode cX9_sell 0 = .ok (.aload_n 0, 1) := by decide +kernel
theorem dX9_sell_1 : decode cX9_sell 1 = .ok (.iconst 0, 1) := by decide +kernel
theorem dX9_sell_2 : decode cX9_sell 2 = .ok (.putfield 59, 3) := by decide +kernel
theorem dX9_sell_5 : decode cX9_sell 5 = .ok (.aload_n 0, 1) := by decide +kernel
theorem dX9_sell_6 : decode cX9_sell 6 = .ok (.iload_n 1, 1) := by decide +kernel
theorem dX9_sell_7 : decode cX9_sell 7 = .ok (.invokevirtual 182, 3) := by decide +kernel
theorem dX9_sell_10 : decode cX9_sell 10 = .ok (.ifCond .eq 34, 3) := by decide +kernel
theorem dX9_sell_13 : decode cX9_sell 13 = .ok (.iload_n 2, 1) := by decide +kernel
theorem dX9_sell_14 : decode cX9_sell 14 = .ok (.invokestatic 191, 3) := by decide +kernel
theorem dX9_sell_17 : decode cX9_sell 17 = .ok (.ifCond .eq 27, 3) := by decide +kernel
theorem dX9_sell_20 : decode cX9_sell 20 = .ok (.aload_n 0, 1) := by decide +kernel
theorem dX9_sell_21 : decode cX9_sell 21 = .ok (.getfield 19, 3) := by decide +kernel
theorem dX9_sell_24 : decode cX9_sell 24 = .ok (.iconst 2, 1) := by decide +kernel
theorem dX9_sell_25 : decode cX9_sell 25 = .ok (.iconst 3, 1) := by decide +kernel
theorem dX9_sell_26 : decode cX9_sell 26 = .ok (.iload_n 1, 1) := by decide +kernel
theorem dX9_sell_27 : decode cX9_sell 27 = .ok (.imul, 1) := by decide +kernel
theorem dX9_sell_28 : decode cX9_sell 28 = .ok (.iadd, 1) := by decide +kernel
theorem dX9_sell_29 : decode cX9_sell 29 = .ok (.iaload, 1) := by decide +kernel
theorem dX9_sell_30 : decode cX9_sell 30 = .ok (.iload_n 2, 1) := by decide +kernel
theorem dX9_sell_31 : decode cX9_sell 31 = .ok (.if_icmp .eq 13, 3) := by decide +kernel
theorem dX9_sell_34 : decode cX9_sell 34 = .ok (.aload_n 0, 1) := by decide +kernel
theorem dX9_sell_35 : decode cX9_sell 35 = .ok (.iload_n 1, 1) := by decide +kernel
theorem dX9_sell_36 : decode cX9_sell 36 = .ok (.iconst 0, 1) := by decide +kernel
theorem dX9_sell_37 : decode cX9_sell 37 = .ok (.iload_n 2, 1) := by decide +kernel
theorem dX9_sell_38 : decode cX9_sell 38 = .ok (.invokevirtual 187, 3) := by decide +kernel
theorem dX9_sell_41 : decode cX9_sell 41 = .ok (.goto 5, 3) := by decide +kernel
theorem dX9_sell_44 : decode cX9_sell 44 = .ok (.ldc 79, 2) := by decide +kernel
theorem dX9_sell_46 : decode cX9_sell 46 = .ok (.ireturn, 1) := by decide +kernel
theorem dX9_crack_0 : decode cX9_crack 0 = .ok (.aload_n 0, 1) := by decide +kernel
theorem dX9_crack_1 : decode cX9_crack 1 = .ok (.iconst 0, 1) := by decide +kernel
theorem dX9_crack_2 : decode cX9_crack 2 = .ok (.putfield 59, 3) := by decide +kernel
theorem dX9_crack_5 : decode cX9_crack 5 = .ok (.aload_n 0, 1) := by decide +kernel
theorem dX9_crack_6 : decode cX9_crack 6 = .ok (.iload_n 1, 1) := by decide +kernel
theorem dX9_crack_7 : decode cX9_crack 7 = .ok (.invokevirtual 182, 3) := by decide +kernel
theorem dX9_crack_10 : decode cX9_crack 10 = .ok (.ifCond .eq 23, 3) := by decide +kernel
theorem dX9_crack_13 : decode cX9_crack 13 = .ok (.iload_n 2, 1) := by decide +kernel
theorem dX9_crack_14 : decode cX9_crack 14 = .ok (.i2l, 1) := by decide +kernel
theorem dX9_crack_15 : decode cX9_crack 15 = .ok (.lconst 0, 1) := by decide +kernel
theorem dX9_crack_16 : decode cX9_crack 16 = .ok (.lconst 1, 1) := by decide +kernel
theorem dX9_crack_17 : decode cX9_crack 17 = .ok (.invokestatic 69, 3) := by decide +kernel
theorem dX9_crack_20 : decode cX9_crack 20 = .ok (.ifCond .eq 13, 3) := by decide +kernel
theorem dX9_crack_23 : decode cX9_crack 23 = .ok (.aload_n 0, 1) := by decide +kernel
theorem dX9_crack_24 : decode cX9_crack 24 = .ok (.iload_n 1, 1) := by decide +kernel
theorem dX9_crack_25 : decode cX9_crack 25 = .ok (.iconst 2, 1) := by decide +kernel
theorem dX9_crack_26 : decode cX9_crack 26 = .ok (.iload_n 2, 1) := by decide +kernel
theorem dX9_crack_27 : decode cX9_crack 27 = .ok (.invokevirtual 187, 3) := by decide +kernel
theorem dX9_crack_30 : decode cX9_crack 30 = .ok (.goto 5, 3) := by decide +kernel
theorem dX9_crack_33 : decode cX9_crack 33 = .ok (.ldc 79, 2) := by decide +kernel
theorem dX9_crack_35 : decode cX9_crack 35 = .ok (.ireturn, 1) := by decide +kernel
theorem dX9_undo_0 : decode cX9_undo 0 = .ok (.aload_n 0, 1) := by decide +kernel
theorem dX9_undo_1 : decode cX9_undo 1 = .ok (.iconst 0, 1) := by decide +kernel
theorem dX9_undo_2 : decode cX9_undo 2 = .ok (.putfield 59, 3) := by decide +kernel
theorem dX9_undo_5 : decode cX9_undo 5 = .ok (.aload_n 0, 1) := by decide +kernel
theorem dX9_undo_6 : decode cX9_undo 6 = .ok (.getfield 174, 3) := by decide +kernel
theorem dX9_undo_9 : decode cX9_undo 9 = .ok (.ifCond .ne 6, 3) := by decide +kernel
theorem dX9_undo_12 : decode cX9_undo 12 = .ok (.ldc 194, 2) := by decide +kernel
theorem dX9_undo_14 : decode cX9_undo 14 = .ok (.ireturn, 1) := by decide +kernel
theorem dX9_undo_15 : decode cX9_undo 15 = .ok (.aload_n 0, 1) := by decide +kernel
theorem dX9_undo_16 : decode cX9_undo 16 = .ok (.dup, 1) := by decide +kernel
theorem dX9_undo_17 : decode cX9_undo 17 = .ok (.getfield 174, 3) := by decide +kernel
theorem dX9_undo_20 : decode cX9_undo 20 = .ok (.iconst 1, 1) := by decide +kernel
theorem dX9_undo_21 : decode cX9_undo 21 = .ok (.isub, 1) := by decide +kernel
theorem dX9_undo_22 : decode cX9_undo 22 = .ok (.putfield 174, 3) := by decide +kernel
theorem dX9_undo_25 : decode cX9_undo 25 = .ok (.iconst 0, 1) := by decide +kernel
theorem dX9_undo_26 : decode cX9_undo 26 = .ok (.istore_n 1, 1) := by decide +kernel
theorem dX9_undo_27 : decode cX9_undo 27 = .ok (.iload_n 1, 1) := by decide +kernel
theorem dX9_undo_28 : decode cX9_undo 28 = .ok (.bipush 80, 2) := by decide +kernel
theorem dX9_undo_30 : decode cX9_undo 30 = .ok (.if_icmp .ge 29, 3) := by decide +kernel
theorem dX9_undo_33 : decode cX9_undo 33 = .ok (.aload_n 0, 1) := by decide +kernel
theorem dX9_undo_34 : decode cX9_undo 34 = .ok (.getfield 19, 3) := by decide +kernel
theorem dX9_undo_37 : decode cX9_undo 37 = .ok (.iload_n 1, 1) := by decide +kernel
theorem dX9_undo_38 : decode cX9_undo 38 = .ok (.aload_n 0, 1) := by decide +kernel
theorem dX9_undo_39 : decode cX9_undo 39 = .ok (.getfield 25, 3) := by decide +kernel
theorem dX9_undo_42 : decode cX9_undo 42 = .ok (.bipush 80, 2) := by decide +kernel
theorem dX9_undo_44 : decode cX9_undo 44 = .ok (.aload_n 0, 1) := by decide +kernel
theorem dX9_undo_45 : decode cX9_undo 45 = .ok (.getfield 174, 3) := by decide +kernel
theorem dX9_undo_48 : decode cX9_undo 48 = .ok (.imul, 1) := by decide +kernel
theorem dX9_undo_49 : decode cX9_undo 49 = .ok (.iload_n 1, 1) := by decide +kernel
theorem dX9_undo_50 : decode cX9_undo 50 = .ok (.iadd, 1) := by decide +kernel
theorem dX9_undo_51 : decode cX9_undo 51 = .ok (.iaload, 1) := by decide +kernel
theorem dX9_undo_52 : decode cX9_undo 52 = .ok (.iastore, 1) := by decide +kernel
theorem dX9_undo_53 : decode cX9_undo 53 = .ok (.iinc 1 1, 3) := by decide +kernel
theorem dX9_undo_56 : decode cX9_undo 56 = .ok (.goto (-29), 3) := by decide +kernel
theorem dX9_undo_59 : decode cX9_undo 59 = .ok (.aload_n 0, 1) := by decide +kernel
theorem dX9_undo_60 : decode cX9_undo 60 = .ok (.getfield 174, 3) := by decide +kernel
theorem dX9_undo_63 : decode cX9_undo 63 = .ok (.ireturn, 1) := by decide +kernel
theorem dX9_step_0 : decode cX9_step 0 = .ok (.aload_n 0, 1) := by decide +kernel
theorem dX9_step_1 : decode cX9_step 1 = .ok (.iconst 0, 1) := by decide +kernel
theorem dX9_step_2 : decode cX9_step 2 = .ok (.putfield 59, 3) := by decide +kernel
theorem dX9_step_5 : decode cX9_step 5 = .ok (.aload_n 0, 1) := by decide +kernel
theorem dX9_step_6 : decode cX9_step 6 = .ok (.iload_n 1, 1) := by decide +kernel
theorem dX9_step_7 : decode cX9_step 7 = .ok (.invokevirtual 182, 3) := by decide +kernel
theorem dX9_step_10 : decode cX9_step 10 = .ok (.ifCond .eq 30, 3) := by decide +kernel
theorem dX9_step_13 : decode cX9_step 13 = .ok (.iload_n 2, 1) := by decide +kernel
theorem dX9_step_14 : decode cX9_step 14 = .ok (.i2l, 1) := by decide +kernel
theorem dX9_step_15 : decode cX9_step 15 = .ok (.lconst 0, 1) := by decide +kernel
theorem dX9_step_16 : decode cX9_step 16 = .ok (.ldc2_w 77, 3) := by decide +kernel
theorem dX9_step_19 : decode cX9_step 19 = .ok (.invokestatic 69, 3) := by decide +kernel
theorem dX9_step_22 : decode cX9_step 22 = .ok (.ifCond .eq 18, 3) := by decide +kernel
theorem dX9_step_25 : decode cX9_step 25 = .ok (.aload_n 0, 1) := by decide +kernel
theorem dX9_step_26 : decode cX9_step 26 = .ok (.getfield 19, 3) := by decide +kernel
theorem dX9_step_29 : decode cX9_step 29 = .ok (.iconst 2, 1) := by decide +kernel
theorem dX9_step_30 : decode cX9_step 30 = .ok (.iconst 3, 1) := by decide +kernel
theorem dX9_step_31 : decode cX9_step 31 = .ok (.iload_n 1, 1) := by decide +kernel
theorem dX9_step_32 : decode cX9_step 32 = .ok (.imul, 1) := by decide +kernel
theorem dX9_step_33 : decode cX9_step 33 = .ok (.iadd, 1) := by decide +kernel
theorem dX9_step_34 : decode cX9_step 34 = .ok (.iload_n 2, 1) := by decide +kernel
theorem dX9_step_35 : decode cX9_step 35 = .ok (.iadd, 1) := by decide +kernel
theorem dX9_step_36 : decode cX9_step 36 = .ok (.iaload, 1) := by decide +kernel
theorem dX9_step_37 : decode cX9_step 37 = .ok (.goto 5, 3) := by decide +kernel
theorem dX9_step_40 : decode cX9_step 40 = .ok (.ldc 79, 2) := by decide +kernel
theorem dX9_step_42 : decode cX9_step 42 = .ok (.ireturn, 1) := by decide +kernel
theorem dX9_layNow_0 : decode cX9_layNow 0 = .ok (.iconst 0, 1) := by decide +kernel
theorem dX9_layNow_1 : decode cX9_layNow 1 = .ok (.istore_n 1, 1) := by decide +kernel
theorem dX9_layNow_2 : decode cX9_layNow 2 = .ok (.iload_n 1, 1) := by decide +kernel
theorem dX9_layNow_3 : decode cX9_layNow 3 = .ok (.aload_n 0, 1) := by decide +kernel
theorem dX9_layNow_4 : decode cX9_layNow 4 = .ok (.getfield 19, 3) := by decide +kernel
theorem dX9_layNow_7 : decode cX9_layNow 7 = .ok (.iconst 0, 1) := by decide +kernel
theorem dX9_layNow_8 : decode cX9_layNow 8 = .ok (.iaload, 1) := by decide +kernel
theorem dX9_layNow_9 : decode cX9_layNow 9 = .ok (.if_icmp .ge 43, 3) := by decide +kernel
theorem dX9_layNow_12 : decode cX9_layNow 12 = .ok (.aload_n 0, 1) := by decide +kernel
theorem dX9_layNow_13 : decode cX9_layNow 13 = .ok (.getfield 31, 3) := by decide +kernel
theorem dX9_layNow_16 : decode cX9_layNow 16 = .ok (.iload_n 1, 1) := by decide +kernel
theorem dX9_layNow_17 : decode cX9_layNow 17 = .ok (.aload_n 0, 1) := by decide +kernel
theorem dX9_layNow_18 : decode cX9_layNow 18 = .ok (.getfield 19, 3) := by decide +kernel
theorem dX9_layNow_21 : decode cX9_layNow 21 = .ok (.iconst 2, 1) := by decide +kernel
theorem dX9_layNow_22 : decode cX9_layNow 22 = .ok (.iconst 3, 1) := by decide +kernel
theorem dX9_layNow_23 : decode cX9_layNow 23 = .ok (.iload_n 1, 1) := by decide +kernel
theorem dX9_layNow_24 : decode cX9_layNow 24 = .ok (.imul, 1) := by decide +kernel
theorem dX9_layNow_25 : decode cX9_layNow 25 = .ok (.iadd, 1) := by decide +kernel
theorem dX9_layNow_26 : decode cX9_layNow 26 = .ok (.iaload, 1) := by decide +kernel
theorem dX9_layNow_27 : decode cX9_layNow 27 = .ok (.iastore, 1) := by decide +kernel
theorem dX9_layNow_28 : decode cX9_layNow 28 = .ok (.aload_n 0, 1) := by decide +kernel
theorem dX9_layNow_29 : decode cX9_layNow 29 = .ok (.getfield 34, 3) := by decide +kernel
theorem dX9_layNow_32 : decode cX9_layNow 32 = .ok (.iload_n 1, 1) := by decide +kernel
theorem dX9_layNow_33 : decode cX9_layNow 33 = .ok (.aload_n 0, 1) := by decide +kernel
theorem dX9_layNow_34 : decode cX9_layNow 34 = .ok (.getfield 19, 3) := by decide +kernel
theorem dX9_layNow_37 : decode cX9_layNow 37 = .ok (.iconst 2, 1) := by decide +kernel
theorem dX9_layNow_38 : decode cX9_layNow 38 = .ok (.iconst 3, 1) := by decide +kernel
theorem dX9_layNow_39 : decode cX9_layNow 39 = .ok (.iload_n 1, 1) := by decide +kernel
theorem dX9_layNow_40 : decode cX9_layNow 40 = .ok (.imul, 1) := by decide +kernel
theorem dX9_layNow_41 : decode cX9_layNow 41 = .ok (.iadd, 1) := by decide +kernel
theorem dX9_layNow_42 : decode cX9_layNow 42 = .ok (.iconst 1, 1) := by decide +kernel
theorem dX9_layNow_43 : decode cX9_layNow 43 = .ok (.iadd, 1) := by decide +kernel
theorem dX9_layNow_44 : decode cX9_layNow 44 = .ok (.iaload, 1) := by decide +kernel
theorem dX9_layNow_45 : decode cX9_layNow 45 = .ok (.iastore, 1) := by decide +kernel
theorem dX9_layNow_46 : decode cX9_layNow 46 = .ok (.iinc 1 1, 3) := by decide +kernel
theorem dX9_layNow_49 : decode cX9_layNow 49 = .ok (.goto (-47), 3) := by decide +kernel
theorem dX9_layNow_52 : decode cX9_layNow 52 = .ok (.return_, 1) := by decide +kernel
theorem dX9_layPlace_0 : decode cX9_layPlace 0 = .ok (.aload_n 0, 1) := by decide +kernel
theorem dX9_layPlace_1 : decode cX9_layPlace 1 = .ok (.getfield 19, 3) := by decide +kernel
theorem dX9_layPlace_4 : decode cX9_layPlace 4 = .ok (.iconst 0, 1) := by decide +kernel
theorem dX9_layPlace_5 : decode cX9_layPlace 5 = .ok (.iaload, 1) := by decide +kernel
theorem dX9_layPlace_6 : decode cX9_layPlace 6 = .ok (.istore_n 3, 1) := by decide +kernel
theorem dX9_layPlace_7 : decode cX9_layPlace 7 = .ok (.iload_n 1, 1) := by decide +kernel
theorem dX9_layPlace_8 : decode cX9_layPlace 8 = .ok (.iconst 1, 1) := by decide +kernel
theorem dX9_layPlace_9 : decode cX9_layPlace 9 = .ok (.isub, 1) := by decide +kernel
theorem dX9_layPlace_10 : decode cX9_layPlace 10 = .ok (.iload_n 2, 1) := by decide +kernel
theorem dX9_layPlace_11 : decode cX9_layPlace 11 = .ok (.iadd, 1) := by decide +kernel
theorem dX9_layPlace_12 : decode cX9_layPlace 12 = .ok (.iload_n 3, 1) := by decide +kernel
theorem dX9_layPlace_13 : decode cX9_layPlace 13 = .ok (.if_icmp .lt 7, 3) := by decide +kernel
theorem dX9_layPlace_16 : decode cX9_layPlace 16 = .ok (.iconst 1, 1) := by decide +kernel
theorem dX9_layPlace_17 : decode cX9_layPlace 17 = .ok (.goto 4, 3) := by decide +kernel
theorem dX9_layPlace_20 : decode cX9_layPlace 20 = .ok (.iconst 0, 1) := by decide +kernel
theorem dX9_layPlace_21 : decode cX9_layPlace 21 = .ok (.istore 4, 2) := by decide +kernel
theorem dX9_layPlace_23 : decode cX9_layPlace 23 = .ok (.aload_n 0, 1) := by decide +kernel
theorem dX9_layPlace_24 : decode cX9_layPlace 24 = .ok (.getfield 37, 3) := by decide +kernel
theorem dX9_layPlace_27 : decode cX9_layPlace 27 = .ok (.iload_n 1, 1) := by decide +kernel
theorem dX9_layPlace_28 : decode cX9_layPlace 28 = .ok (.iload 4, 2) := by decide +kernel
theorem dX9_layPlace_30 : decode cX9_layPlace 30 = .ok (.ifCond .eq 7, 3) := by decide +kernel
theorem dX9_layPlace_33 : decode cX9_layPlace 33 = .ok (.iconst 0, 1) := by decide +kernel
theorem dX9_layPlace_34 : decode cX9_layPlace 34 = .ok (.goto 5, 3) := by decide +kernel
theorem dX9_layPlace_37 : decode cX9_layPlace 37 = .ok (.ldc 195, 2) := by decide +kernel
theorem dX9_layPlace_39 : decode cX9_layPlace 39 = .ok (.iastore, 1) := by decide +kernel
theorem dX9_layPlace_40 : decode cX9_layPlace 40 = .ok (.aload_n 0, 1) := by decide +kernel
theorem dX9_layPlace_41 : decode cX9_layPlace 41 = .ok (.getfield 40, 3) := by decide +kernel
theorem dX9_layPlace_44 : decode cX9_layPlace 44 = .ok (.iload_n 1, 1) := by decide +kernel
theorem dX9_layPlace_45 : decode cX9_layPlace 45 = .ok (.iload 4, 2) := by decide +kernel
theorem dX9_layPlace_47 : decode cX9_layPlace 47 = .ok (.ifCond .eq 7, 3) := by decide +kernel
theorem dX9_layPlace_50 : decode cX9_layPlace 50 = .ok (.iconst 0, 1) := by decide +kernel
theorem dX9_layPlace_51 : decode cX9_layPlace 51 = .ok (.goto 5, 3) := by decide +kernel
theorem dX9_layPlace_54 : decode cX9_layPlace 54 = .ok (.ldc 195, 2) := by decide +kernel
theorem dX9_layPlace_56 : decode cX9_layPlace 56 = .ok (.iastore, 1) := by decide +kernel
theorem dX9_layPlace_57 : decode cX9_layPlace 57 = .ok (.aload_n 0, 1) := by decide +kernel
theorem dX9_layPlace_58 : decode cX9_layPlace 58 = .ok (.getfield 43, 3) := by decide +kernel
theorem dX9_layPlace_61 : decode cX9_layPlace 61 = .ok (.iload_n 1, 1) := by decide +kernel
theorem dX9_layPlace_62 : decode cX9_layPlace 62 = .ok (.iload_n 3, 1) := by decide +kernel
theorem dX9_layPlace_63 : decode cX9_layPlace 63 = .ok (.iastore, 1) := by decide +kernel
theorem dX9_layPlace_64 : decode cX9_layPlace 64 = .ok (.iload_n 1, 1) := by decide +kernel
theorem dX9_layPlace_65 : decode cX9_layPlace 65 = .ok (.istore 5, 2) := by decide +kernel
theorem dX9_layPlace_67 : decode cX9_layPlace 67 = .ok (.iload 5, 2) := by decide +kernel
theorem dX9_layPlace_69 : decode cX9_layPlace 69 = .ok (.iload_n 3, 1) := by decide +kernel
theorem dX9_layPlace_70 : decode cX9_layPlace 70 = .ok (.if_icmp .ge 143, 3) := by decide +kernel
theorem dX9_layPlace_73 : decode cX9_layPlace 73 = .ok (.iload 5, 2) := by decide +kernel
theorem dX9_layPlace_75 : decode cX9_layPlace 75 = .ok (.iload_n 1, 1) := by decide +kernel
theorem dX9_layPlace_76 : decode cX9_layPlace 76 = .ok (.iload_n 2, 1) := by decide +kernel
theorem dX9_layPlace_77 : decode cX9_layPlace 77 = .ok (.iadd, 1) := by decide +kernel
theorem dX9_layPlace_78 : decode cX9_layPlace 78 = .ok (.if_icmp .ge 135, 3) := by decide +kernel
theorem dX9_layPlace_81 : decode cX9_layPlace 81 = .ok (.aload_n 0, 1) := by decide +kernel
theorem dX9_layPlace_82 : decode cX9_layPlace 82 = .ok (.iload 5, 2) := by decide +kernel
theorem dX9_layPlace_84 : decode cX9_layPlace 84 = .ok (.invokevirtual 196, 3) := by decide +kernel
theorem dX9_layPlace_87 : decode cX9_layPlace 87 = .ok (.ifCond .eq 8, 3) := by decide +kernel
theorem dX9_layPlace_90 : decode cX9_layPlace 90 = .ok (.ldc 195, 2) := by decide +kernel
theorem dX9_layPlace_92 : decode cX9_layPlace 92 = .ok (.goto 12, 3) := by decide +kernel
theorem dX9_layPlace_95 : decode cX9_layPlace 95 = .ok (.aload_n 0, 1) := by decide +kernel
theorem dX9_layPlace_96 : decode cX9_layPlace 96 = .ok (.getfield 37, 3) := by decide +kernel
theorem dX9_layPlace_99 : decode cX9_layPlace 99 = .ok (.iload 5, 2) := by decide +kernel
theorem dX9_layPlace_101 : decode cX9_layPlace 101 = .ok (.iconst 1, 1) := by decide +kernel
theorem dX9_layPlace_102 : decode cX9_layPlace 102 = .ok (.iadd, 1) := by decide +kernel
theorem dX9_layPlace_103 : decode cX9_layPlace 103 = .ok (.iaload, 1) := by decide +kernel
theorem dX9_layPlace_104 : decode cX9_layPlace 104 = .ok (.istore 6, 2) := by decide +kernel
theorem dX9_layPlace_106 : decode cX9_layPlace 106 = .ok (.aload_n 0, 1) := by decide +kernel
theorem dX9_layPlace_107 : decode cX9_layPlace 107 = .ok (.getfield 40, 3) := by decide +kernel
theorem dX9_layPlace_110 : decode cX9_layPlace 110 = .ok (.iload 5, 2) := by decide +kernel
theorem dX9_layPlace_112 : decode cX9_layPlace 112 = .ok (.iconst 1, 1) := by decide +kernel
theorem dX9_layPlace_113 : decode cX9_layPlace 113 = .ok (.iadd, 1) := by decide +kernel
theorem dX9_layPlace_114 : decode cX9_layPlace 114 = .ok (.iaload, 1) := by decide +kernel
theorem dX9_layPlace_115 : decode cX9_layPlace 115 = .ok (.iconst 1, 1) := by decide +kernel
theorem dX9_layPlace_116 : decode cX9_layPlace 116 = .ok (.iadd, 1) := by decide +kernel
theorem dX9_layPlace_117 : decode cX9_layPlace 117 = .ok (.istore 7, 2) := by decide +kernel
theorem dX9_layPlace_119 : decode cX9_layPlace 119 = .ok (.iload 6, 2) := by decide +kernel
theorem dX9_layPlace_121 : decode cX9_layPlace 121 = .ok (.ldc 195, 2) := by decide +kernel
theorem dX9_layPlace_123 : decode cX9_layPlace 123 = .ok (.if_icmp .ge 84, 3) := by decide +kernel
theorem dX9_layPlace_126 : decode cX9_layPlace 126 = .ok (.iload 6, 2) := by decide +kernel
theorem dX9_layPlace_128 : decode cX9_layPlace 128 = .ok (.aload_n 0, 1) := by decide +kernel
theorem dX9_layPlace_129 : decode cX9_layPlace 129 = .ok (.getfield 34, 3) := by decide +kernel
theorem dX9_layPlace_132 : decode cX9_layPlace 132 = .ok (.iload 5, 2) := by decide +kernel
theorem dX9_layPlace_134 : decode cX9_layPlace 134 = .ok (.iaload, 1) := by decide +kernel
theorem dX9_layPlace_135 : decode cX9_layPlace 135 = .ok (.iadd, 1) := by decide +kernel
theorem dX9_layPlace_136 : decode cX9_layPlace 136 = .ok (.aload_n 0, 1) := by decide +kernel
theorem dX9_layPlace_137 : decode cX9_layPlace 137 = .ok (.getfield 37, 3) := by decide +kernel
theorem dX9_layPlace_140 : decode cX9_layPlace 140 = .ok (.iload_n 1, 1) := by decide +kernel
theorem dX9_layPlace_141 : decode cX9_layPlace 141 = .ok (.iaload, 1) := by decide +kernel
theorem dX9_layPlace_142 : decode cX9_layPlace 142 = .ok (.if_icmp .lt 33, 3) := by decide +kernel
theorem dX9_layPlace_145 : decode cX9_layPlace 145 = .ok (.iload 6, 2) := by decide +kernel
theorem dX9_layPlace_147 : decode cX9_layPlace 147 = .ok (.aload_n 0, 1) := by decide +kernel
theorem dX9_layPlace_148 : decode cX9_layPlace 148 = .ok (.getfield 34, 3) := by decide +kernel
theorem dX9_layPlace_151 : decode cX9_layPlace 151 = .ok (.iload 5, 2) := by decide +kernel
theorem dX9_layPlace_153 : decode cX9_layPlace 153 = .ok (.iaload, 1) := by decide +kernel
theorem dX9_layPlace_154 : decode cX9_layPlace 154 = .ok (.iadd, 1) := by decide +kernel
theorem dX9_layPlace_155 : decode cX9_layPlace 155 = .ok (.aload_n 0, 1) := by decide +kernel
theorem dX9_layPlace_156 : decode cX9_layPlace 156 = .ok (.getfield 37, 3) := by decide +kernel
theorem dX9_layPlace_159 : decode cX9_layPlace 159 = .ok (.iload_n 1, 1) := by decide +kernel
theorem dX9_layPlace_160 : decode cX9_layPlace 160 = .ok (.iaload, 1) := by decide +kernel
theorem dX9_layPlace_161 : decode cX9_layPlace 161 = .ok (.if_icmp .ne 46, 3) := by decide +kernel
theorem dX9_layPlace_164 : decode cX9_layPlace 164 = .ok (.iload 7, 2) := by decide +kernel
theorem dX9_layPlace_166 : decode cX9_layPlace 166 = .ok (.aload_n 0, 1) := by decide +kernel
theorem dX9_layPlace_167 : decode cX9_layPlace 167 = .ok (.getfield 40, 3) := by decide +kernel
theorem dX9_layPlace_170 : decode cX9_layPlace 170 = .ok (.iload_n 1, 1) := by decide +kernel
theorem dX9_layPlace_171 : decode cX9_layPlace 171 = .ok (.iaload, 1) := by decide +kernel
theorem dX9_layPlace_172 : decode cX9_layPlace 172 = .ok (.if_icmp .ge 35, 3) := by decide +kernel
theorem dX9_layPlace_175 : decode cX9_layPlace 175 = .ok (.aload_n 0, 1) := by decide +kernel
theorem dX9_layPlace_176 : decode cX9_layPlace 176 = .ok (.getfield 37, 3) := by decide +kernel
theorem dX9_layPlace_179 : decode cX9_layPlace 179 = .ok (.iload_n 1, 1) := by decide +kernel
theorem dX9_layPlace_180 : decode cX9_layPlace 180 = .ok (.iload 6, 2) := by decide +kernel
theorem dX9_layPlace_182 : decode cX9_layPlace 182 = .ok (.aload_n 0, 1) := by decide +kernel
theorem dX9_layPlace_183 : decode cX9_layPlace 183 = .ok (.getfield 34, 3) := by decide +kernel
theorem dX9_layPlace_186 : decode cX9_layPlace 186 = .ok (.iload 5, 2) := by decide +kernel
theorem dX9_layPlace_188 : decode cX9_layPlace 188 = .ok (.iaload, 1) := by decide +kernel
theorem dX9_layPlace_189 : decode cX9_layPlace 189 = .ok (.iadd, 1) := by decide +kernel
theorem dX9_layPlace_190 : decode cX9_layPlace 190 = .ok (.iastore, 1) := by decide +kernel
theorem dX9_layPlace_191 : decode cX9_layPlace 191 = .ok (.aload_n 0, 1) := by decide +kernel
theorem dX9_layPlace_192 : decode cX9_layPlace 192 = .ok (.getfield 40, 3) := by decide +kernel
theorem dX9_layPlace_195 : decode cX9_layPlace 195 = .ok (.iload_n 1, 1) := by decide +kernel
theorem dX9_layPlace_196 : decode cX9_layPlace 196 = .ok (.iload 7, 2) := by decide +kernel
theorem dX9_layPlace_198 : decode cX9_layPlace 198 = .ok (.iastore, 1) := by decide +kernel
theorem dX9_layPlace_199 : decode cX9_layPlace 199 = .ok (.aload_n 0, 1) := by decide +kernel
theorem dX9_layPlace_200 : decode cX9_layPlace 200 = .ok (.getfield 43, 3) := by decide +kernel
theorem dX9_layPlace_203 : decode cX9_layPlace 203 = .ok (.iload_n 1, 1) := by decide +kernel
theorem dX9_layPlace_204 : decode cX9_layPlace 204 = .ok (.iload 5, 2) := by decide +kernel
theorem dX9_layPlace_206 : decode cX9_layPlace 206 = .ok (.iastore, 1) := by decide +kernel
theorem dX9_layPlace_207 : decode cX9_layPlace 207 = .ok (.iinc 5 1, 3) := by decide +kernel
theorem dX9_layPlace_210 : decode cX9_layPlace 210 = .ok (.goto (-143), 3) := by decide +kernel
theorem dX9_layPlace_213 : decode cX9_layPlace 213 = .ok (.return_, 1) := by decide +kernel
theorem dX9_layWay_0 : decode cX9_layWay 0 = .ok (.aload_n 0, 1) := by decide +kernel
theorem dX9_layWay_1 : decode cX9_layWay 1 = .ok (.getfield 19, 3) := by decide +kernel
theorem dX9_layWay_4 : decode cX9_layWay 4 = .ok (.iconst 0, 1) := by decide +kernel
theorem dX9_layWay_5 : decode cX9_layWay 5 = .ok (.iaload, 1) := by decide +kernel
theorem dX9_layWay_6 : decode cX9_layWay 6 = .ok (.istore_n 2, 1) := by decide +kernel
theorem dX9_layWay_7 : decode cX9_layWay 7 = .ok (.iload_n 2, 1) := by decide +kernel
theorem dX9_layWay_8 : decode cX9_layWay 8 = .ok (.ifCond .lt 20, 3) := by decide +kernel
theorem dX9_layWay_11 : decode cX9_layWay 11 = .ok (.aload_n 0, 1) := by decide +kernel
theorem dX9_layWay_12 : decode cX9_layWay 12 = .ok (.iload_n 2, 1) := by decide +kernel
theorem dX9_layWay_13 : decode cX9_layWay 13 = .ok (.aload_n 0, 1) := by decide +kernel
theorem dX9_layWay_14 : decode cX9_layWay 14 = .ok (.iload_n 1, 1) := by decide +kernel
theorem dX9_layWay_15 : decode cX9_layWay 15 = .ok (.iconst 0, 1) := by decide +kernel
theorem dX9_layWay_16 : decode cX9_layWay 16 = .ok (.invokevirtual 199, 3) := by decide +kernel
theorem dX9_layWay_19 : decode cX9_layWay 19 = .ok (.invokevirtual 202, 3) := by decide +kernel
theorem dX9_layWay_22 : decode cX9_layWay 22 = .ok (.iinc 2 (-1), 3) := by decide +kernel
theorem dX9_layWay_25 : decode cX9_layWay 25 = .ok (.goto (-18), 3) := by decide +kernel
theorem dX9_layWay_28 : decode cX9_layWay 28 = .ok (.return_, 1) := by decide +kernel
theorem dX9_hasWay_0 : decode cX9_hasWay 0 = .ok (.aload_n 0, 1) := by decide +kernel
theorem dX9_hasWay_1 : decode cX9_hasWay 1 = .ok (.getfield 37, 3) := by decide +kernel
theorem dX9_hasWay_4 : decode cX9_hasWay 4 = .ok (.iconst 0, 1) := by decide +kernel
theorem dX9_hasWay_5 : decode cX9_hasWay 5 = .ok (.iaload, 1) := by decide +kernel
theorem dX9_hasWay_6 : decode cX9_hasWay 6 = .ok (.ldc 195, 2) := by decide +kernel
theorem dX9_hasWay_8 : decode cX9_hasWay 8 = .ok (.if_icmp .ge 7, 3) := by decide +kernel
theorem dX9_hasWay_11 : decode cX9_hasWay 11 = .ok (.iconst 1, 1) := by decide +kernel
theorem dX9_hasWay_12 : decode cX9_hasWay 12 = .ok (.goto 4, 3) := by decide +kernel
theorem dX9_hasWay_15 : decode cX9_hasWay 15 = .ok (.iconst 0, 1) := by decide +kernel
theorem dX9_hasWay_16 : decode cX9_hasWay 16 = .ok (.ireturn, 1) := by decide +kernel
theorem dX9_costOf_0 : decode cX9_costOf 0 = .ok (.aload_n 0, 1) := by decide +kernel
theorem dX9_costOf_1 : decode cX9_costOf 1 = .ok (.getfield 37, 3) := by decide +kernel
theorem dX9_costOf_4 : decode cX9_costOf 4 = .ok (.iconst 0, 1) := by decide +kernel
theorem dX9_costOf_5 : decode cX9_costOf 5 = .ok (.iaload, 1) := by decide +kernel
theorem dX9_costOf_6 : decode cX9_costOf 6 = .ok (.iconst 1, 1) := by decide +kernel
theorem dX9_costOf_7 : decode cX9_costOf 7 = .ok (.aload_n 0, 1) := by decide +kernel
theorem dX9_costOf_8 : decode cX9_costOf 8 = .ok (.iload_n 1, 1) := by decide +kernel
theorem dX9_costOf_9 : decode cX9_costOf 9 = .ok (.iconst 1, 1) := by decide +kernel
theorem dX9_costOf_10 : decode cX9_costOf 10 = .ok (.invokevirtual 199, 3) := by decide +kernel
theorem dX9_costOf_13 : decode cX9_costOf 13 = .ok (.iadd, 1) := by decide +kernel
theorem dX9_costOf_14 : decode cX9_costOf 14 = .ok (.imul, 1) := by decide +kernel
theorem dX9_costOf_15 : decode cX9_costOf 15 = .ok (.ireturn, 1) := by decide +kernel
theorem dX9_goes_0 : decode cX9_goes 0 = .ok (.aload_n 0, 1) := by decide +kernel
theorem dX9_goes_1 : decode cX9_goes 1 = .ok (.invokevirtual 205, 3) := by decide +kernel
theorem dX9_goes_4 : decode cX9_goes 4 = .ok (.ifCond .eq 21, 3) := by decide +kernel
theorem dX9_goes_7 : decode cX9_goes 7 = .ok (.aload_n 0, 1) := by decide +kernel
theorem dX9_goes_8 : decode cX9_goes 8 = .ok (.iload_n 1, 1) := by decide +kernel
theorem dX9_goes_9 : decode cX9_goes 9 = .ok (.invokevirtual 209, 3) := by decide +kernel
theorem dX9_goes_12 : decode cX9_goes 12 = .ok (.aload_n 0, 1) := by decide +kernel
theorem dX9_goes_13 : decode cX9_goes 13 = .ok (.iload_n 1, 1) := by decide +kernel
theorem dX9_goes_14 : decode cX9_goes 14 = .ok (.iconst 2, 1) := by decide +kernel
theorem dX9_goes_15 : decode cX9_goes 15 = .ok (.invokevirtual 199, 3) := by decide +kernel
theorem dX9_goes_18 : decode cX9_goes 18 = .ok (.if_icmp .gt 7, 3) := by decide +kernel
theorem dX9_goes_21 : decode cX9_goes 21 = .ok (.iconst 1, 1) := by decide +kernel
theorem dX9_goes_22 : decode cX9_goes 22 = .ok (.goto 4, 3) := by decide +kernel
theorem dX9_goes_25 : decode cX9_goes 25 = .ok (.iconst 0, 1) := by decide +kernel
theorem dX9_goes_26 : decode cX9_goes 26 = .ok (.ireturn, 1) := by decide +kernel
theorem dX9_way_0 : decode cX9_way 0 = .ok (.aload_n 0, 1) := by decide +kernel
theorem dX9_way_1 : decode cX9_way 1 = .ok (.iconst 0, 1) := by decide +kernel
theorem dX9_way_2 : decode cX9_way 2 = .ok (.putfield 59, 3) := by decide +kernel
theorem dX9_way_5 : decode cX9_way 5 = .ok (.aload_n 0, 1) := by decide +kernel
theorem dX9_way_6 : decode cX9_way 6 = .ok (.iload_n 1, 1) := by decide +kernel
theorem dX9_way_7 : decode cX9_way 7 = .ok (.invokevirtual 212, 3) := by decide +kernel
theorem dX9_way_10 : decode cX9_way 10 = .ok (.ifCond .eq 9, 3) := by decide +kernel
theorem dX9_way_13 : decode cX9_way 13 = .ok (.iload_n 2, 1) := by decide +kernel
theorem dX9_way_14 : decode cX9_way 14 = .ok (.bipush (-3), 2) := by decide +kernel
theorem dX9_way_16 : decode cX9_way 16 = .ok (.if_icmp .ge 6, 3) := by decide +kernel
theorem dX9_way_19 : decode cX9_way 19 = .ok (.ldc 79, 2) := by decide +kernel
theorem dX9_way_21 : decode cX9_way 21 = .ok (.ireturn, 1) := by decide +kernel
theorem dX9_way_22 : decode cX9_way 22 = .ok (.aload_n 0, 1) := by decide +kernel
theorem dX9_way_23 : decode cX9_way 23 = .ok (.invokevirtual 215, 3) := by decide +kernel
theorem dX9_way_26 : decode cX9_way 26 = .ok (.aload_n 0, 1) := by decide +kernel
theorem dX9_way_27 : decode cX9_way 27 = .ok (.iload_n 1, 1) := by decide +kernel
theorem dX9_way_28 : decode cX9_way 28 = .ok (.invokevirtual 218, 3) := by decide +kernel
theorem dX9_way_31 : decode cX9_way 31 = .ok (.iload_n 2, 1) := by decide +kernel
theorem dX9_way_32 : decode cX9_way 32 = .ok (.bipush (-3), 2) := by decide +kernel
theorem dX9_way_34 : decode cX9_way 34 = .ok (.if_icmp .ne 17, 3) := by decide +kernel
theorem dX9_way_37 : decode cX9_way 37 = .ok (.aload_n 0, 1) := by decide +kernel
theorem dX9_way_38 : decode cX9_way 38 = .ok (.iload_n 1, 1) := by decide +kernel
theorem dX9_way_39 : decode cX9_way 39 = .ok (.invokevirtual 221, 3) := by decide +kernel
theorem dX9_way_42 : decode cX9_way 42 = .ok (.ifCond .eq 7, 3) := by decide +kernel
theorem dX9_way_45 : decode cX9_way 45 = .ok (.iconst 1, 1) := by decide +kernel
theorem dX9_way_46 : decode cX9_way 46 = .ok (.goto 4, 3) := by decide +kernel
theorem dX9_way_49 : decode cX9_way 49 = .ok (.iconst 0, 1) := by decide +kernel
theorem dX9_way_50 : decode cX9_way 50 = .ok (.ireturn, 1) := by decide +kernel
theorem dX9_way_51 : decode cX9_way 51 = .ok (.aload_n 0, 1) := by decide +kernel
theorem dX9_way_52 : decode cX9_way 52 = .ok (.invokevirtual 205, 3) := by decide +kernel
theorem dX9_way_55 : decode cX9_way 55 = .ok (.ifCond .ne 15, 3) := by decide +kernel
theorem dX9_way_58 : decode cX9_way 58 = .ok (.iload_n 2, 1) := by decide +kernel
theorem dX9_way_59 : decode cX9_way 59 = .ok (.iconst (-1), 1) := by decide +kernel
theorem dX9_way_60 : decode cX9_way 60 = .ok (.if_icmp .ne 7, 3) := by decide +kernel
theorem dX9_way_63 : decode cX9_way 63 = .ok (.iconst 0, 1) := by decide +kernel
theorem dX9_way_64 : decode cX9_way 64 = .ok (.goto 5, 3) := by decide +kernel
theorem dX9_way_67 : decode cX9_way 67 = .ok (.ldc 95, 2) := by decide +kernel
theorem dX9_way_69 : decode cX9_way 69 = .ok (.ireturn, 1) := by decide +kernel
theorem dX9_way_70 : decode cX9_way 70 = .ok (.iload_n 2, 1) := by decide +kernel
theorem dX9_way_71 : decode cX9_way 71 = .ok (.bipush (-2), 2) := by decide +kernel
theorem dX9_way_73 : decode cX9_way 73 = .ok (.if_icmp .ne 9, 3) := by decide +kernel
theorem dX9_way_76 : decode cX9_way 76 = .ok (.aload_n 0, 1) := by decide +kernel
theorem dX9_way_77 : decode cX9_way 77 = .ok (.iload_n 1, 1) := by decide +kernel
theorem dX9_way_78 : decode cX9_way 78 = .ok (.invokevirtual 209, 3) := by decide +kernel
theorem dX9_way_81 : decode cX9_way 81 = .ok (.ireturn, 1) := by decide +kernel
theorem dX9_way_82 : decode cX9_way 82 = .ok (.iload_n 2, 1) := by decide +kernel
theorem dX9_way_83 : decode cX9_way 83 = .ok (.iconst (-1), 1) := by decide +kernel
theorem dX9_way_84 : decode cX9_way 84 = .ok (.if_icmp .eq 13, 3) := by decide +kernel
theorem dX9_way_87 : decode cX9_way 87 = .ok (.iload_n 2, 1) := by decide +kernel
theorem dX9_way_88 : decode cX9_way 88 = .ok (.aload_n 0, 1) := by decide +kernel
theorem dX9_way_89 : decode cX9_way 89 = .ok (.getfield 40, 3) := by decide +kernel
theorem dX9_way_92 : decode cX9_way 92 = .ok (.iconst 0, 1) := by decide +kernel
theorem dX9_way_93 : decode cX9_way 93 = .ok (.iaload, 1) := by decide +kernel
theorem dX9_way_94 : decode cX9_way 94 = .ok (.if_icmp .lt 20, 3) := by decide +kernel
theorem dX9_way_97 : decode cX9_way 97 = .ok (.iload_n 2, 1) := by decide +kernel
theorem dX9_way_98 : decode cX9_way 98 = .ok (.iconst (-1), 1) := by decide +kernel
theorem dX9_way_99 : decode cX9_way 99 = .ok (.if_icmp .ne 12, 3) := by decide +kernel
theorem dX9_way_102 : decode cX9_way 102 = .ok (.aload_n 0, 1) := by decide +kernel
theorem dX9_way_103 : decode cX9_way 103 = .ok (.getfield 40, 3) := by decide +kernel
theorem dX9_way_106 : decode cX9_way 106 = .ok (.iconst 0, 1) := by decide +kernel
theorem dX9_way_107 : decode cX9_way 107 = .ok (.iaload, 1) := by decide +kernel
theorem dX9_way_108 : decode cX9_way 108 = .ok (.goto 5, 3) := by decide +kernel
theorem dX9_way_111 : decode cX9_way 111 = .ok (.ldc 95, 2) := by decide +kernel
theorem dX9_way_113 : decode cX9_way 113 = .ok (.ireturn, 1) := by decide +kernel
theorem dX9_way_114 : decode cX9_way 114 = .ok (.aload_n 0, 1) := by decide +kernel
theorem dX9_way_115 : decode cX9_way 115 = .ok (.getfield 43, 3) := by decide +kernel
theorem dX9_way_118 : decode cX9_way 118 = .ok (.iconst 0, 1) := by decide +kernel
theorem dX9_way_119 : decode cX9_way 119 = .ok (.iaload, 1) := by decide +kernel
theorem dX9_way_120 : decode cX9_way 120 = .ok (.istore_n 3, 1) := by decide +kernel
theorem dX9_way_121 : decode cX9_way 121 = .ok (.iconst 0, 1) := by decide +kernel
theorem dX9_way_122 : decode cX9_way 122 = .ok (.istore 4, 2) := by decide +kernel
theorem dX9_way_124 : decode cX9_way 124 = .ok (.iload 4, 2) := by decide +kernel
theorem dX9_way_126 : decode cX9_way 126 = .ok (.iload_n 2, 1) := by decide +kernel
theorem dX9_way_127 : decode cX9_way 127 = .ok (.if_icmp .ge 18, 3) := by decide +kernel
theorem dX9_way_130 : decode cX9_way 130 = .ok (.aload_n 0, 1) := by decide +kernel
theorem dX9_way_131 : decode cX9_way 131 = .ok (.getfield 43, 3) := by decide +kernel
theorem dX9_way_134 : decode cX9_way 134 = .ok (.iload_n 3, 1) := by decide +kernel
theorem dX9_way_135 : decode cX9_way 135 = .ok (.iconst 1, 1) := by decide +kernel
theorem dX9_way_136 : decode cX9_way 136 = .ok (.iadd, 1) := by decide +kernel
theorem dX9_way_137 : decode cX9_way 137 = .ok (.iaload, 1) := by decide +kernel
theorem dX9_way_138 : decode cX9_way 138 = .ok (.istore_n 3, 1) := by decide +kernel
theorem dX9_way_139 : decode cX9_way 139 = .ok (.iinc 4 1, 3) := by decide +kernel
theorem dX9_way_142 : decode cX9_way 142 = .ok (.goto (-18), 3) := by decide +kernel
theorem dX9_way_145 : decode cX9_way 145 = .ok (.iload_n 3, 1) := by decide +kernel
theorem dX9_way_146 : decode cX9_way 146 = .ok (.ireturn, 1) := by decide +kernel
theorem dX9_takenBy_0 : decode cX9_takenBy 0 = .ok (.iconst 0, 1) := by decide +kernel
theorem dX9_takenBy_1 : decode cX9_takenBy 1 = .ok (.istore_n 2, 1) := by decide +kernel
theorem dX9_takenBy_2 : decode cX9_takenBy 2 = .ok (.iconst 0, 1) := by decide +kernel
theorem dX9_takenBy_3 : decode cX9_takenBy 3 = .ok (.istore_n 3, 1) := by decide +kernel
theorem dX9_takenBy_4 : decode cX9_takenBy 4 = .ok (.iload_n 3, 1) := by decide +kernel
theorem dX9_takenBy_5 : decode cX9_takenBy 5 = .ok (.aload_n 0, 1) := by decide +kernel
theorem dX9_takenBy_6 : decode cX9_takenBy 6 = .ok (.getfield 19, 3) := by decide +kernel
theorem dX9_takenBy_9 : decode cX9_takenBy 9 = .ok (.iconst 1, 1) := by decide +kernel
theorem dX9_takenBy_10 : decode cX9_takenBy 10 = .ok (.iaload, 1) := by decide +kernel
theorem dX9_takenBy_11 : decode cX9_takenBy 11 = .ok (.if_icmp .ge 110, 3) := by decide +kernel
theorem dX9_takenBy_14 : decode cX9_takenBy 14 = .ok (.aload_n 0, 1) := by decide +kernel
theorem dX9_takenBy_15 : decode cX9_takenBy 15 = .ok (.iload_n 3, 1) := by decide +kernel
theorem dX9_takenBy_16 : decode cX9_takenBy 16 = .ok (.invokevirtual 218, 3) := by decide +kernel
theorem dX9_takenBy_19 : decode cX9_takenBy 19 = .ok (.aload_n 0, 1) := by decide +kernel
theorem dX9_takenBy_20 : decode cX9_takenBy 20 = .ok (.getfield 43, 3) := by decide +kernel
theorem dX9_takenBy_23 : decode cX9_takenBy 23 = .ok (.iconst 0, 1) := by decide +kernel
theorem dX9_takenBy_24 : decode cX9_takenBy 24 = .ok (.iaload, 1) := by decide +kernel
theorem dX9_takenBy_25 : decode cX9_takenBy 25 = .ok (.istore 4, 2) := by decide +kernel
theorem dX9_takenBy_27 : decode cX9_takenBy 27 = .ok (.iconst 0, 1) := by decide +kernel
theorem dX9_takenBy_28 : decode cX9_takenBy 28 = .ok (.istore 5, 2) := by decide +kernel
theorem dX9_takenBy_30 : decode cX9_takenBy 30 = .ok (.aload_n 0, 1) := by decide +kernel
theorem dX9_takenBy_31 : decode cX9_takenBy 31 = .ok (.iload_n 3, 1) := by decide +kernel
theorem dX9_takenBy_32 : decode cX9_takenBy 32 = .ok (.invokevirtual 221, 3) := by decide +kernel
theorem dX9_takenBy_35 : decode cX9_takenBy 35 = .ok (.ifCond .eq 59, 3) := by decide +kernel
theorem dX9_takenBy_38 : decode cX9_takenBy 38 = .ok (.iload 4, 2) := by decide +kernel
theorem dX9_takenBy_40 : decode cX9_takenBy 40 = .ok (.aload_n 0, 1) := by decide +kernel
theorem dX9_takenBy_41 : decode cX9_takenBy 41 = .ok (.getfield 19, 3) := by decide +kernel
theorem dX9_takenBy_44 : decode cX9_takenBy 44 = .ok (.iconst 0, 1) := by decide +kernel
theorem dX9_takenBy_45 : decode cX9_takenBy 45 = .ok (.iaload, 1) := by decide +kernel
theorem dX9_takenBy_46 : decode cX9_takenBy 46 = .ok (.if_icmp .ge 48, 3) := by decide +kernel
theorem dX9_takenBy_49 : decode cX9_takenBy 49 = .ok (.iload 5, 2) := by decide +kernel
theorem dX9_takenBy_51 : decode cX9_takenBy 51 = .ok (.iload_n 1, 1) := by decide +kernel
theorem dX9_takenBy_52 : decode cX9_takenBy 52 = .ok (.aload_n 0, 1) := by decide +kernel
theorem dX9_takenBy_53 : decode cX9_takenBy 53 = .ok (.getfield 31, 3) := by decide +kernel
theorem dX9_takenBy_56 : decode cX9_takenBy 56 = .ok (.iload 4, 2) := by decide +kernel
theorem dX9_takenBy_58 : decode cX9_takenBy 58 = .ok (.iaload, 1) := by decide +kernel
theorem dX9_takenBy_59 : decode cX9_takenBy 59 = .ok (.ishr, 1) := by decide +kernel
theorem dX9_takenBy_60 : decode cX9_takenBy 60 = .ok (.iconst 1, 1) := by decide +kernel
theorem dX9_takenBy_61 : decode cX9_takenBy 61 = .ok (.iand, 1) := by decide +kernel
theorem dX9_takenBy_62 : decode cX9_takenBy 62 = .ok (.iconst 1, 1) := by decide +kernel
theorem dX9_takenBy_63 : decode cX9_takenBy 63 = .ok (.if_icmp .ne 13, 3) := by decide +kernel
theorem dX9_takenBy_66 : decode cX9_takenBy 66 = .ok (.aload_n 0, 1) := by decide +kernel
theorem dX9_takenBy_67 : decode cX9_takenBy 67 = .ok (.getfield 34, 3) := by decide +kernel
theorem dX9_takenBy_70 : decode cX9_takenBy 70 = .ok (.iload 4, 2) := by decide +kernel
theorem dX9_takenBy_72 : decode cX9_takenBy 72 = .ok (.iaload, 1) := by decide +kernel
theorem dX9_takenBy_73 : decode cX9_takenBy 73 = .ok (.goto 4, 3) := by decide +kernel
theorem dX9_takenBy_76 : decode cX9_takenBy 76 = .ok (.iconst 0, 1) := by decide +kernel
theorem dX9_takenBy_77 : decode cX9_takenBy 77 = .ok (.iadd, 1) := by decide +kernel
theorem dX9_takenBy_78 : decode cX9_takenBy 78 = .ok (.istore 5, 2) := by decide +kernel
theorem dX9_takenBy_80 : decode cX9_takenBy 80 = .ok (.aload_n 0, 1) := by decide +kernel
theorem dX9_takenBy_81 : decode cX9_takenBy 81 = .ok (.getfield 43, 3) := by decide +kernel
theorem dX9_takenBy_84 : decode cX9_takenBy 84 = .ok (.iload 4, 2) := by decide +kernel
theorem dX9_takenBy_86 : decode cX9_takenBy 86 = .ok (.iconst 1, 1) := by decide +kernel
theorem dX9_takenBy_87 : decode cX9_takenBy 87 = .ok (.iadd, 1) := by decide +kernel
theorem dX9_takenBy_88 : decode cX9_takenBy 88 = .ok (.iaload, 1) := by decide +kernel
theorem dX9_takenBy_89 : decode cX9_takenBy 89 = .ok (.istore 4, 2) := by decide +kernel
theorem dX9_takenBy_91 : decode cX9_takenBy 91 = .ok (.goto (-61), 3) := by decide +kernel
theorem dX9_takenBy_94 : decode cX9_takenBy 94 = .ok (.iload_n 2, 1) := by decide +kernel
theorem dX9_takenBy_95 : decode cX9_takenBy 95 = .ok (.iload 5, 2) := by decide +kernel
theorem dX9_takenBy_97 : decode cX9_takenBy 97 = .ok (.iconst 1, 1) := by decide +kernel
theorem dX9_takenBy_98 : decode cX9_takenBy 98 = .ok (.aload_n 0, 1) := by decide +kernel
theorem dX9_takenBy_99 : decode cX9_takenBy 99 = .ok (.iload_n 3, 1) := by decide +kernel
theorem dX9_takenBy_100 : decode cX9_takenBy 100 = .ok (.iconst 1, 1) := by decide +kernel
theorem dX9_takenBy_101 : decode cX9_takenBy 101 = .ok (.invokevirtual 199, 3) := by decide +kernel
theorem dX9_takenBy_104 : decode cX9_takenBy 104 = .ok (.iadd, 1) := by decide +kernel
theorem dX9_takenBy_105 : decode cX9_takenBy 105 = .ok (.imul, 1) := by decide +kernel
theorem dX9_takenBy_106 : decode cX9_takenBy 106 = .ok (.aload_n 0, 1) := by decide +kernel
theorem dX9_takenBy_107 : decode cX9_takenBy 107 = .ok (.iload_n 3, 1) := by decide +kernel
theorem dX9_takenBy_108 : decode cX9_takenBy 108 = .ok (.iconst 3, 1) := by decide +kernel
theorem dX9_takenBy_109 : decode cX9_takenBy 109 = .ok (.invokevirtual 199, 3) := by decide +kernel
theorem dX9_takenBy_112 : decode cX9_takenBy 112 = .ok (.imul, 1) := by decide +kernel
theorem dX9_takenBy_113 : decode cX9_takenBy 113 = .ok (.iadd, 1) := by decide +kernel
theorem dX9_takenBy_114 : decode cX9_takenBy 114 = .ok (.istore_n 2, 1) := by decide +kernel
theorem dX9_takenBy_115 : decode cX9_takenBy 115 = .ok (.iinc 3 1, 3) := by decide +kernel
theorem dX9_takenBy_118 : decode cX9_takenBy 118 = .ok (.goto (-114), 3) := by decide +kernel
theorem dX9_takenBy_121 : decode cX9_takenBy 121 = .ok (.iload_n 2, 1) := by decide +kernel
theorem dX9_takenBy_122 : decode cX9_takenBy 122 = .ok (.ireturn, 1) := by decide +kernel
theorem dX9_takes_0 : decode cX9_takes 0 = .ok (.aload_n 0, 1) := by decide +kernel
theorem dX9_takes_1 : decode cX9_takes 1 = .ok (.iconst 0, 1) := by decide +kernel
theorem dX9_takes_2 : decode cX9_takes 2 = .ok (.putfield 59, 3) := by decide +kernel
theorem dX9_takes_5 : decode cX9_takes 5 = .ok (.aload_n 0, 1) := by decide +kernel
theorem dX9_takes_6 : decode cX9_takes 6 = .ok (.getfield 170, 3) := by decide +kernel
theorem dX9_takes_9 : decode cX9_takes 9 = .ok (.ifCond .ne 6, 3) := by decide +kernel
theorem dX9_takes_12 : decode cX9_takes 12 = .ok (.ldc 194, 2) := by decide +kernel
theorem dX9_takes_14 : decode cX9_takes 14 = .ok (.ireturn, 1) := by decide +kernel
theorem dX9_takes_15 : decode cX9_takes 15 = .ok (.iload_n 1, 1) := by decide +kernel
theorem dX9_takes_16 : decode cX9_takes 16 = .ok (.invokestatic 191, 3) := by decide +kernel
theorem dX9_takes_19 : decode cX9_takes 19 = .ok (.ifCond .ne 6, 3) := by decide +kernel
theorem dX9_takes_22 : decode cX9_takes 22 = .ok (.ldc 79, 2) := by decide +kernel
theorem dX9_takes_24 : decode cX9_takes 24 = .ok (.ireturn, 1) := by decide +kernel
theorem dX9_takes_25 : decode cX9_takes 25 = .ok (.aload_n 0, 1) := by decide +kernel
theorem dX9_takes_26 : decode cX9_takes 26 = .ok (.invokevirtual 215, 3) := by decide +kernel
theorem dX9_takes_29 : decode cX9_takes 29 = .ok (.aload_n 0, 1) := by decide +kernel
theorem dX9_takes_30 : decode cX9_takes 30 = .ok (.iconst 1, 1) := by decide +kernel
theorem dX9_takes_31 : decode cX9_takes 31 = .ok (.iload_n 1, 1) := by decide +kernel
theorem dX9_takes_32 : decode cX9_takes 32 = .ok (.ishl, 1) := by decide +kernel
theorem dX9_takes_33 : decode cX9_takes 33 = .ok (.invokevirtual 224, 3) := by decide +kernel
theorem dX9_takes_36 : decode cX9_takes 36 = .ok (.ireturn, 1) := by decide +kernel
theorem dX9_haveSteps_0 : decode cX9_haveSteps 0 = .ok (.iconst 0, 1) := by decide +kernel
theorem dX9_haveSteps_1 : decode cX9_haveSteps 1 = .ok (.istore_n 2, 1) := by decide +kernel
theorem dX9_haveSteps_2 : decode cX9_haveSteps 2 = .ok (.iconst 0, 1) := by decide +kernel
theorem dX9_haveSteps_3 : decode cX9_haveSteps 3 = .ok (.istore_n 3, 1) := by decide +kernel
theorem dX9_haveSteps_4 : decode cX9_haveSteps 4 = .ok (.iload_n 3, 1) := by decide +kernel
theorem dX9_haveSteps_5 : decode cX9_haveSteps 5 = .ok (.aload_n 0, 1) := by decide +kernel
theorem dX9_haveSteps_6 : decode cX9_haveSteps 6 = .ok (.getfield 19, 3) := by decide +kernel
theorem dX9_haveSteps_9 : decode cX9_haveSteps 9 = .ok (.iconst 0, 1) := by decide +kernel
theorem dX9_haveSteps_10 : decode cX9_haveSteps 10 = .ok (.iaload, 1) := by decide +kernel
theorem dX9_haveSteps_11 : decode cX9_haveSteps 11 = .ok (.if_icmp .ge 33, 3) := by decide +kernel
theorem dX9_haveSteps_14 : decode cX9_haveSteps 14 = .ok (.iload_n 2, 1) := by decide +kernel
theorem dX9_haveSteps_15 : decode cX9_haveSteps 15 = .ok (.ifCond .ne 17, 3) := by decide +kernel
theorem dX9_haveSteps_18 : decode cX9_haveSteps 18 = .ok (.iload_n 1, 1) := by decide +kernel
theorem dX9_haveSteps_19 : decode cX9_haveSteps 19 = .ok (.aload_n 0, 1) := by decide +kernel
theorem dX9_haveSteps_20 : decode cX9_haveSteps 20 = .ok (.getfield 31, 3) := by decide +kernel
theorem dX9_haveSteps_23 : decode cX9_haveSteps 23 = .ok (.iload_n 3, 1) := by decide +kernel
theorem dX9_haveSteps_24 : decode cX9_haveSteps 24 = .ok (.iaload, 1) := by decide +kernel
theorem dX9_haveSteps_25 : decode cX9_haveSteps 25 = .ok (.ishr, 1) := by decide +kernel
theorem dX9_haveSteps_26 : decode cX9_haveSteps 26 = .ok (.iconst 1, 1) := by decide +kernel
theorem dX9_haveSteps_27 : decode cX9_haveSteps 27 = .ok (.iand, 1) := by decide +kernel
theorem dX9_haveSteps_28 : decode cX9_haveSteps 28 = .ok (.iconst 1, 1) := by decide +kernel
theorem dX9_haveSteps_29 : decode cX9_haveSteps 29 = .ok (.if_icmp .ne 7, 3) := by decide +kernel
theorem dX9_haveSteps_32 : decode cX9_haveSteps 32 = .ok (.iconst 1, 1) := by decide +kernel
theorem dX9_haveSteps_33 : decode cX9_haveSteps 33 = .ok (.goto 4, 3) := by decide +kernel
theorem dX9_haveSteps_36 : decode cX9_haveSteps 36 = .ok (.iconst 0, 1) := by decide +kernel
theorem dX9_haveSteps_37 : decode cX9_haveSteps 37 = .ok (.istore_n 2, 1) := by decide +kernel
theorem dX9_haveSteps_38 : decode cX9_haveSteps 38 = .ok (.iinc 3 1, 3) := by decide +kernel
theorem dX9_haveSteps_41 : decode cX9_haveSteps 41 = .ok (.goto (-37), 3) := by decide +kernel
theorem dX9_haveSteps_44 : decode cX9_haveSteps 44 = .ok (.iload_n 2, 1) := by decide +kernel
theorem dX9_haveSteps_45 : decode cX9_haveSteps 45 = .ok (.ireturn, 1) := by decide +kernel
theorem dX9_setAsks_0 : decode cX9_setAsks 0 = .ok (.iconst 0, 1) := by decide +kernel
theorem dX9_setAsks_1 : decode cX9_setAsks 1 = .ok (.istore_n 3, 1) := by decide +kernel
theorem dX9_setAsks_2 : decode cX9_setAsks 2 = .ok (.iload_n 3, 1) := by decide +kernel
theorem dX9_setAsks_3 : decode cX9_setAsks 3 = .ok (.aload_n 0, 1) := by decide +kernel
theorem dX9_setAsks_4 : decode cX9_setAsks 4 = .ok (.getfield 19, 3) := by decide +kernel
theorem dX9_setAsks_7 : decode cX9_setAsks 7 = .ok (.iconst 0, 1) := by decide +kernel
theorem dX9_setAsks_8 : decode cX9_setAsks 8 = .ok (.iaload, 1) := by decide +kernel
theorem dX9_setAsks_9 : decode cX9_setAsks 9 = .ok (.if_icmp .ge 39, 3) := by decide +kernel
theorem dX9_setAsks_12 : decode cX9_setAsks 12 = .ok (.aload_n 0, 1) := by decide +kernel
theorem dX9_setAsks_13 : decode cX9_setAsks 13 = .ok (.getfield 34, 3) := by decide +kernel
theorem dX9_setAsks_16 : decode cX9_setAsks 16 = .ok (.iload_n 3, 1) := by decide +kernel
theorem dX9_setAsks_17 : decode cX9_setAsks 17 = .ok (.iload_n 1, 1) := by decide +kernel
theorem dX9_setAsks_18 : decode cX9_setAsks 18 = .ok (.aload_n 0, 1) := by decide +kernel
theorem dX9_setAsks_19 : decode cX9_setAsks 19 = .ok (.getfield 31, 3) := by decide +kernel
theorem dX9_setAsks_22 : decode cX9_setAsks 22 = .ok (.iload_n 3, 1) := by decide +kernel
theorem dX9_setAsks_23 : decode cX9_setAsks 23 = .ok (.iaload, 1) := by decide +kernel
theorem dX9_setAsks_24 : decode cX9_setAsks 24 = .ok (.ishr, 1) := by decide +kernel
theorem dX9_setAsks_25 : decode cX9_setAsks 25 = .ok (.iconst 1, 1) := by decide +kernel
theorem dX9_setAsks_26 : decode cX9_setAsks 26 = .ok (.iand, 1) := by decide +kernel
theorem dX9_setAsks_27 : decode cX9_setAsks 27 = .ok (.iconst 1, 1) := by decide +kernel
theorem dX9_setAsks_28 : decode cX9_setAsks 28 = .ok (.if_icmp .ne 7, 3) := by decide +kernel
theorem dX9_setAsks_31 : decode cX9_setAsks 31 = .ok (.iload_n 2, 1) := by decide +kernel
theorem dX9_setAsks_32 : decode cX9_setAsks 32 = .ok (.goto 9, 3) := by decide +kernel
theorem dX9_setAsks_35 : decode cX9_setAsks 35 = .ok (.aload_n 0, 1) := by decide +kernel
theorem dX9_setAsks_36 : decode cX9_setAsks 36 = .ok (.getfield 34, 3) := by decide +kernel
theorem dX9_setAsks_39 : decode cX9_setAsks 39 = .ok (.iload_n 3, 1) := by decide +kernel
theorem dX9_setAsks_40 : decode cX9_setAsks 40 = .ok (.iaload, 1) := by decide +kernel
theorem dX9_setAsks_41 : decode cX9_setAsks 41 = .ok (.iastore, 1) := by decide +kernel
theorem dX9_setAsks_42 : decode cX9_setAsks 42 = .ok (.iinc 3 1, 3) := by decide +kernel
theorem dX9_setAsks_45 : decode cX9_setAsks 45 = .ok (.goto (-43), 3) := by decide +kernel
theorem dX9_setAsks_48 : decode cX9_setAsks 48 = .ok (.return_, 1) := by decide +kernel
theorem dX9_bestOf_0 : decode cX9_bestOf 0 = .ok (.iconst 0, 1) := by decide +kernel
theorem dX9_bestOf_1 : decode cX9_bestOf 1 = .ok (.istore_n 2, 1) := by decide +kernel
theorem dX9_bestOf_2 : decode cX9_bestOf 2 = .ok (.aload_n 0, 1) := by decide +kernel
theorem dX9_bestOf_3 : decode cX9_bestOf 3 = .ok (.iconst (-1), 1) := by decide +kernel
theorem dX9_bestOf_4 : decode cX9_bestOf 4 = .ok (.putfield 227, 3) := by decide +kernel
theorem dX9_bestOf_7 : decode cX9_bestOf 7 = .ok (.iconst 0, 1) := by decide +kernel
theorem dX9_bestOf_8 : decode cX9_bestOf 8 = .ok (.istore_n 3, 1) := by decide +kernel
theorem dX9_bestOf_9 : decode cX9_bestOf 9 = .ok (.iload_n 3, 1) := by decide +kernel
theorem dX9_bestOf_10 : decode cX9_bestOf 10 = .ok (.bipush 18, 2) := by decide +kernel
theorem dX9_bestOf_12 : decode cX9_bestOf 12 = .ok (.if_icmp .ge 21, 3) := by decide +kernel
theorem dX9_bestOf_15 : decode cX9_bestOf 15 = .ok (.aload_n 0, 1) := by decide +kernel
theorem dX9_bestOf_16 : decode cX9_bestOf 16 = .ok (.getfield 46, 3) := by decide +kernel
theorem dX9_bestOf_19 : decode cX9_bestOf 19 = .ok (.iload_n 3, 1) := by decide +kernel
theorem dX9_bestOf_20 : decode cX9_bestOf 20 = .ok (.aload_n 0, 1) := by decide +kernel
theorem dX9_bestOf_21 : decode cX9_bestOf 21 = .ok (.getfield 34, 3) := by decide +kernel
theorem dX9_bestOf_24 : decode cX9_bestOf 24 = .ok (.iload_n 3, 1) := by decide +kernel
theorem dX9_bestOf_25 : decode cX9_bestOf 25 = .ok (.iaload, 1) := by decide +kernel
theorem dX9_bestOf_26 : decode cX9_bestOf 26 = .ok (.iastore, 1) := by decide +kernel
theorem dX9_bestOf_27 : decode cX9_bestOf 27 = .ok (.iinc 3 1, 3) := by decide +kernel
theorem dX9_bestOf_30 : decode cX9_bestOf 30 = .ok (.goto (-21), 3) := by decide +kernel
theorem dX9_bestOf_33 : decode cX9_bestOf 33 = .ok (.iconst 0, 1) := by decide +kernel
theorem dX9_bestOf_34 : decode cX9_bestOf 34 = .ok (.istore_n 3, 1) := by decide +kernel
theorem dX9_bestOf_35 : decode cX9_bestOf 35 = .ok (.iload_n 3, 1) := by decide +kernel
theorem dX9_bestOf_36 : decode cX9_bestOf 36 = .ok (.bipush 20, 2) := by decide +kernel
theorem dX9_bestOf_38 : decode cX9_bestOf 38 = .ok (.if_icmp .gt 59, 3) := by decide +kernel
theorem dX9_bestOf_41 : decode cX9_bestOf 41 = .ok (.aload_n 0, 1) := by decide +kernel
theorem dX9_bestOf_42 : decode cX9_bestOf 42 = .ok (.iload_n 1, 1) := by decide +kernel
theorem dX9_bestOf_43 : decode cX9_bestOf 43 = .ok (.iload_n 3, 1) := by decide +kernel
theorem dX9_bestOf_44 : decode cX9_bestOf 44 = .ok (.invokevirtual 230, 3) := by decide +kernel
theorem dX9_bestOf_47 : decode cX9_bestOf 47 = .ok (.aload_n 0, 1) := by decide +kernel
theorem dX9_bestOf_48 : decode cX9_bestOf 48 = .ok (.iload_n 1, 1) := by decide +kernel
theorem dX9_bestOf_49 : decode cX9_bestOf 49 = .ok (.invokevirtual 224, 3) := by decide +kernel
theorem dX9_bestOf_52 : decode cX9_bestOf 52 = .ok (.istore 4, 2) := by decide +kernel
theorem dX9_bestOf_54 : decode cX9_bestOf 54 = .ok (.iload 4, 2) := by decide +kernel
theorem dX9_bestOf_56 : decode cX9_bestOf 56 = .ok (.aload_n 0, 1) := by decide +kernel
theorem dX9_bestOf_57 : decode cX9_bestOf 57 = .ok (.getfield 227, 3) := by decide +kernel
theorem dX9_bestOf_60 : decode cX9_bestOf 60 = .ok (.if_icmp .le 7, 3) := by decide +kernel
theorem dX9_bestOf_63 : decode cX9_bestOf 63 = .ok (.iload_n 3, 1) := by decide +kernel
theorem dX9_bestOf_64 : decode cX9_bestOf 64 = .ok (.goto 4, 3) := by decide +kernel
theorem dX9_bestOf_67 : decode cX9_bestOf 67 = .ok (.iload_n 2, 1) := by decide +kernel
theorem dX9_bestOf_68 : decode cX9_bestOf 68 = .ok (.istore_n 2, 1) := by decide +kernel
theorem dX9_bestOf_69 : decode cX9_bestOf 69 = .ok (.aload_n 0, 1) := by decide +kernel
theorem dX9_bestOf_70 : decode cX9_bestOf 70 = .ok (.iload 4, 2) := by decide +kernel
theorem dX9_bestOf_72 : decode cX9_bestOf 72 = .ok (.aload_n 0, 1) := by decide +kernel
theorem dX9_bestOf_73 : decode cX9_bestOf 73 = .ok (.getfield 227, 3) := by decide +kernel
theorem dX9_bestOf_76 : decode cX9_bestOf 76 = .ok (.if_icmp .le 8, 3) := by decide +kernel
theorem dX9_bestOf_79 : decode cX9_bestOf 79 = .ok (.iload 4, 2) := by decide +kernel
theorem dX9_bestOf_81 : decode cX9_bestOf 81 = .ok (.goto 7, 3) := by decide +kernel
theorem dX9_bestOf_84 : decode cX9_bestOf 84 = .ok (.aload_n 0, 1) := by decide +kernel
theorem dX9_bestOf_85 : decode cX9_bestOf 85 = .ok (.getfield 227, 3) := by decide +kernel
theorem dX9_bestOf_88 : decode cX9_bestOf 88 = .ok (.putfield 227, 3) := by decide +kernel
theorem dX9_bestOf_91 : decode cX9_bestOf 91 = .ok (.iinc 3 1, 3) := by decide +kernel
theorem dX9_bestOf_94 : decode cX9_bestOf 94 = .ok (.goto (-59), 3) := by decide +kernel
theorem dX9_bestOf_97 : decode cX9_bestOf 97 = .ok (.iconst 0, 1) := by decide +kernel
theorem dX9_bestOf_98 : decode cX9_bestOf 98 = .ok (.istore_n 3, 1) := by decide +kernel
theorem dX9_bestOf_99 : decode cX9_bestOf 99 = .ok (.iload_n 3, 1) := by decide +kernel
theorem dX9_bestOf_100 : decode cX9_bestOf 100 = .ok (.bipush 18, 2) := by decide +kernel
theorem dX9_bestOf_102 : decode cX9_bestOf 102 = .ok (.if_icmp .ge 21, 3) := by decide +kernel
theorem dX9_bestOf_105 : decode cX9_bestOf 105 = .ok (.aload_n 0, 1) := by decide +kernel
theorem dX9_bestOf_106 : decode cX9_bestOf 106 = .ok (.getfield 34, 3) := by decide +kernel
theorem dX9_bestOf_109 : decode cX9_bestOf 109 = .ok (.iload_n 3, 1) := by decide +kernel
theorem dX9_bestOf_110 : decode cX9_bestOf 110 = .ok (.aload_n 0, 1) := by decide +kernel
theorem dX9_bestOf_111 : decode cX9_bestOf 111 = .ok (.getfield 46, 3) := by decide +kernel
theorem dX9_bestOf_114 : decode cX9_bestOf 114 = .ok (.iload_n 3, 1) := by decide +kernel
theorem dX9_bestOf_115 : decode cX9_bestOf 115 = .ok (.iaload, 1) := by decide +kernel
theorem dX9_bestOf_116 : decode cX9_bestOf 116 = .ok (.iastore, 1) := by decide +kernel
theorem dX9_bestOf_117 : decode cX9_bestOf 117 = .ok (.iinc 3 1, 3) := by decide +kernel
theorem dX9_bestOf_120 : decode cX9_bestOf 120 = .ok (.goto (-21), 3) := by decide +kernel
theorem dX9_bestOf_123 : decode cX9_bestOf 123 = .ok (.iload_n 2, 1) := by decide +kernel
theorem dX9_bestOf_124 : decode cX9_bestOf 124 = .ok (.ireturn, 1) := by decide +kernel
theorem dX9_best_0 : decode cX9_best 0 = .ok (.aload_n 0, 1) := by decide +kernel
theorem dX9_best_1 : decode cX9_best 1 = .ok (.iconst 0, 1) := by decide +kernel
theorem dX9_best_2 : decode cX9_best 2 = .ok (.putfield 59, 3) := by decide +kernel
theorem dX9_best_5 : decode cX9_best 5 = .ok (.aload_n 0, 1) := by decide +kernel
theorem dX9_best_6 : decode cX9_best 6 = .ok (.getfield 170, 3) := by decide +kernel
theorem dX9_best_9 : decode cX9_best 9 = .ok (.ifCond .ne 6, 3) := by decide +kernel
theorem dX9_best_12 : decode cX9_best 12 = .ok (.ldc 194, 2) := by decide +kernel
theorem dX9_best_14 : decode cX9_best 14 = .ok (.ireturn, 1) := by decide +kernel
theorem dX9_best_15 : decode cX9_best 15 = .ok (.iload_n 1, 1) := by decide +kernel
theorem dX9_best_16 : decode cX9_best 16 = .ok (.i2l, 1) := by decide +kernel
theorem dX9_best_17 : decode cX9_best 17 = .ok (.lconst 1, 1) := by decide +kernel
theorem dX9_best_18 : decode cX9_best 18 = .ok (.ldc2_w 233, 3) := by decide +kernel
theorem dX9_best_21 : decode cX9_best 21 = .ok (.invokestatic 69, 3) := by decide +kernel
theorem dX9_best_24 : decode cX9_best 24 = .ok (.ifCond .eq 13, 3) := by decide +kernel
theorem dX9_best_27 : decode cX9_best 27 = .ok (.iload_n 2, 1) := by decide +kernel
theorem dX9_best_28 : decode cX9_best 28 = .ok (.i2l, 1) := by decide +kernel
theorem dX9_best_29 : decode cX9_best 29 = .ok (.lconst 0, 1) := by decide +kernel
theorem dX9_best_30 : decode cX9_best 30 = .ok (.lconst 1, 1) := by decide +kernel
theorem dX9_best_31 : decode cX9_best 31 = .ok (.invokestatic 69, 3) := by decide +kernel
theorem dX9_best_34 : decode cX9_best 34 = .ok (.ifCond .ne 6, 3) := by decide +kernel
theorem dX9_best_37 : decode cX9_best 37 = .ok (.ldc 79, 2) := by decide +kernel
theorem dX9_best_39 : decode cX9_best 39 = .ok (.ireturn, 1) := by decide +kernel
theorem dX9_best_40 : decode cX9_best 40 = .ok (.aload_n 0, 1) := by decide +kernel
theorem dX9_best_41 : decode cX9_best 41 = .ok (.invokevirtual 215, 3) := by decide +kernel
theorem dX9_best_44 : decode cX9_best 44 = .ok (.aload_n 0, 1) := by decide +kernel
theorem dX9_best_45 : decode cX9_best 45 = .ok (.iload_n 1, 1) := by decide +kernel
theorem dX9_best_46 : decode cX9_best 46 = .ok (.invokevirtual 235, 3) := by decide +kernel
theorem dX9_best_49 : decode cX9_best 49 = .ok (.ifCond .ne 6, 3) := by decide +kernel
theorem dX9_best_52 : decode cX9_best 52 = .ok (.ldc 95, 2) := by decide +kernel
theorem dX9_best_54 : decode cX9_best 54 = .ok (.ireturn, 1) := by decide +kernel
theorem dX9_best_55 : decode cX9_best 55 = .ok (.aload_n 0, 1) := by decide +kernel
theorem dX9_best_56 : decode cX9_best 56 = .ok (.iload_n 1, 1) := by decide +kernel
theorem dX9_best_57 : decode cX9_best 57 = .ok (.invokevirtual 238, 3) := by decide +kernel
theorem dX9_best_60 : decode cX9_best 60 = .ok (.istore_n 3, 1) := by decide +kernel
theorem dX9_best_61 : decode cX9_best 61 = .ok (.aload_n 0, 1) := by decide +kernel
theorem dX9_best_62 : decode cX9_best 62 = .ok (.getfield 227, 3) := by decide +kernel
theorem dX9_best_65 : decode cX9_best 65 = .ok (.aload_n 0, 1) := by decide +kernel
theorem dX9_best_66 : decode cX9_best 66 = .ok (.iload_n 1, 1) := by decide +kernel
theorem dX9_best_67 : decode cX9_best 67 = .ok (.invokevirtual 224, 3) := by decide +kernel
theorem dX9_best_70 : decode cX9_best 70 = .ok (.isub, 1) := by decide +kernel
theorem dX9_best_71 : decode cX9_best 71 = .ok (.istore 4, 2) := by decide +kernel
theorem dX9_best_73 : decode cX9_best 73 = .ok (.iload_n 2, 1) := by decide +kernel
theorem dX9_best_74 : decode cX9_best 74 = .ok (.ifCond .ne 7, 3) := by decide +kernel
theorem dX9_best_77 : decode cX9_best 77 = .ok (.iload_n 3, 1) := by decide +kernel
theorem dX9_best_78 : decode cX9_best 78 = .ok (.goto 14, 3) := by decide +kernel
theorem dX9_best_81 : decode cX9_best 81 = .ok (.iload 4, 2) := by decide +kernel
theorem dX9_best_83 : decode cX9_best 83 = .ok (.ifCond .ge 7, 3) := by decide +kernel
theorem dX9_best_86 : decode cX9_best 86 = .ok (.iconst 0, 1) := by decide +kernel
theorem dX9_best_87 : decode cX9_best 87 = .ok (.goto 5, 3) := by decide +kernel
theorem dX9_best_90 : decode cX9_best 90 = .ok (.iload 4, 2) := by decide +kernel
theorem dX9_best_92 : decode cX9_best 92 = .ok (.ireturn, 1) := by decide +kernel
theorem dX9_changes_0 : decode cX9_changes 0 = .ok (.aload_n 0, 1) := by decide +kernel
theorem dX9_changes_1 : decode cX9_changes 1 = .ok (.iconst 1, 1) := by decide +kernel
theorem dX9_changes_2 : decode cX9_changes 2 = .ok (.iload_n 1, 1) := by decide +kernel
theorem dX9_changes_3 : decode cX9_changes 3 = .ok (.ishl, 1) := by decide +kernel
theorem dX9_changes_4 : decode cX9_changes 4 = .ok (.invokevirtual 235, 3) := by decide +kernel
theorem dX9_changes_7 : decode cX9_changes 7 = .ok (.ifCond .ne 5, 3) := by decide +kernel
theorem dX9_changes_10 : decode cX9_changes 10 = .ok (.iconst 0, 1) := by decide +kernel
theorem dX9_changes_11 : decode cX9_changes 11 = .ok (.ireturn, 1) := by decide +kernel
theorem dX9_changes_12 : decode cX9_changes 12 = .ok (.aload_n 0, 1) := by decide +kernel
theorem dX9_changes_13 : decode cX9_changes 13 = .ok (.iconst 1, 1) := by decide +kernel
theorem dX9_changes_14 : decode cX9_changes 14 = .ok (.iload_n 1, 1) := by decide +kernel
theorem dX9_changes_15 : decode cX9_changes 15 = .ok (.ishl, 1) := by decide +kernel
theorem dX9_changes_16 : decode cX9_changes 16 = .ok (.invokevirtual 238, 3) := by decide +kernel
theorem dX9_changes_19 : decode cX9_changes 19 = .ok (.istore_n 2, 1) := by decide +kernel
theorem dX9_changes_20 : decode cX9_changes 20 = .ok (.iconst 0, 1) := by decide +kernel
theorem dX9_changes_21 : decode cX9_changes 21 = .ok (.istore_n 3, 1) := by decide +kernel
theorem dX9_changes_22 : decode cX9_changes 22 = .ok (.iconst 0, 1) := by decide +kernel
theorem dX9_changes_23 : decode cX9_changes 23 = .ok (.istore 4, 2) := by decide +kernel
theorem dX9_changes_25 : decode cX9_changes 25 = .ok (.iload 4, 2) := by decide +kernel
theorem dX9_changes_27 : decode cX9_changes 27 = .ok (.aload_n 0, 1) := by decide +kernel
theorem dX9_changes_28 : decode cX9_changes 28 = .ok (.getfield 19, 3) := by decide +kernel
theorem dX9_changes_31 : decode cX9_changes 31 = .ok (.iconst 0, 1) := by decide +kernel
theorem dX9_changes_32 : decode cX9_changes 32 = .ok (.iaload, 1) := by decide +kernel
theorem dX9_changes_33 : decode cX9_changes 33 = .ok (.if_icmp .ge 41, 3) := by decide +kernel
theorem dX9_changes_36 : decode cX9_changes 36 = .ok (.iload_n 3, 1) := by decide +kernel
theorem dX9_changes_37 : decode cX9_changes 37 = .ok (.ifCond .ne 25, 3) := by decide +kernel
theorem dX9_changes_40 : decode cX9_changes 40 = .ok (.aload_n 0, 1) := by decide +kernel
theorem dX9_changes_41 : decode cX9_changes 41 = .ok (.getfield 31, 3) := by decide +kernel
theorem dX9_changes_44 : decode cX9_changes 44 = .ok (.iload 4, 2) := by decide +kernel
theorem dX9_changes_46 : decode cX9_changes 46 = .ok (.iaload, 1) := by decide +kernel
theorem dX9_changes_47 : decode cX9_changes 47 = .ok (.iload_n 1, 1) := by decide +kernel
theorem dX9_changes_48 : decode cX9_changes 48 = .ok (.if_icmp .ne 18, 3) := by decide +kernel
theorem dX9_changes_51 : decode cX9_changes 51 = .ok (.aload_n 0, 1) := by decide +kernel
theorem dX9_changes_52 : decode cX9_changes 52 = .ok (.getfield 34, 3) := by decide +kernel
theorem dX9_changes_55 : decode cX9_changes 55 = .ok (.iload 4, 2) := by decide +kernel
theorem dX9_changes_57 : decode cX9_changes 57 = .ok (.iaload, 1) := by decide +kernel
theorem dX9_changes_58 : decode cX9_changes 58 = .ok (.iload_n 2, 1) := by decide +kernel
theorem dX9_changes_59 : decode cX9_changes 59 = .ok (.if_icmp .eq 7, 3) := by decide +kernel
theorem dX9_changes_62 : decode cX9_changes 62 = .ok (.iconst 1, 1) := by decide +kernel
theorem dX9_changes_63 : decode cX9_changes 63 = .ok (.goto 4, 3) := by decide +kernel
theorem dX9_changes_66 : decode cX9_changes 66 = .ok (.iconst 0, 1) := by decide +kernel
theorem dX9_changes_67 : decode cX9_changes 67 = .ok (.istore_n 3, 1) := by decide +kernel
theorem dX9_changes_68 : decode cX9_changes 68 = .ok (.iinc 4 1, 3) := by decide +kernel
theorem dX9_changes_71 : decode cX9_changes 71 = .ok (.goto (-46), 3) := by decide +kernel
theorem dX9_changes_74 : decode cX9_changes 74 = .ok (.aload_n 0, 1) := by decide +kernel
theorem dX9_changes_75 : decode cX9_changes 75 = .ok (.iconst 1, 1) := by decide +kernel
theorem dX9_changes_76 : decode cX9_changes 76 = .ok (.iload_n 1, 1) := by decide +kernel
theorem dX9_changes_77 : decode cX9_changes 77 = .ok (.ishl, 1) := by decide +kernel
theorem dX9_changes_78 : decode cX9_changes 78 = .ok (.iload_n 2, 1) := by decide +kernel
theorem dX9_changes_79 : decode cX9_changes 79 = .ok (.invokevirtual 230, 3) := by decide +kernel
theorem dX9_changes_82 : decode cX9_changes 82 = .ok (.iload_n 3, 1) := by decide +kernel
theorem dX9_changes_83 : decode cX9_changes 83 = .ok (.ireturn, 1) := by decide +kernel
theorem dX9_turnsOf_0 : decode cX9_turnsOf 0 = .ok (.aload_n 0, 1) := by decide +kernel
theorem dX9_turnsOf_1 : decode cX9_turnsOf 1 = .ok (.iconst 0, 1) := by decide +kernel
theorem dX9_turnsOf_2 : decode cX9_turnsOf 2 = .ok (.putfield 59, 3) := by decide +kernel
theorem dX9_turnsOf_5 : decode cX9_turnsOf 5 = .ok (.aload_n 0, 1) := by decide +kernel
theorem dX9_turnsOf_6 : decode cX9_turnsOf 6 = .ok (.getfield 170, 3) := by decide +kernel
theorem dX9_turnsOf_9 : decode cX9_turnsOf 9 = .ok (.ifCond .ne 6, 3) := by decide +kernel
theorem dX9_turnsOf_12 : decode cX9_turnsOf 12 = .ok (.ldc 194, 2) := by decide +kernel
theorem dX9_turnsOf_14 : decode cX9_turnsOf 14 = .ok (.ireturn, 1) := by decide +kernel
theorem dX9_turnsOf_15 : decode cX9_turnsOf 15 = .ok (.iload_n 1, 1) := by decide +kernel
theorem dX9_turnsOf_16 : decode cX9_turnsOf 16 = .ok (.i2l, 1) := by decide +kernel
theorem dX9_turnsOf_17 : decode cX9_turnsOf 17 = .ok (.ldc2_w 241, 3) := by decide +kernel
theorem dX9_turnsOf_20 : decode cX9_turnsOf 20 = .ok (.ldc2_w 177, 3) := by decide +kernel
theorem dX9_turnsOf_23 : decode cX9_turnsOf 23 = .ok (.invokestatic 69, 3) := by decide +kernel
theorem dX9_turnsOf_26 : decode cX9_turnsOf 26 = .ok (.ifCond .ne 6, 3) := by decide +kernel
theorem dX9_turnsOf_29 : decode cX9_turnsOf 29 = .ok (.ldc 79, 2) := by decide +kernel
theorem dX9_turnsOf_31 : decode cX9_turnsOf 31 = .ok (.ireturn, 1) := by decide +kernel
theorem dX9_turnsOf_32 : decode cX9_turnsOf 32 = .ok (.aload_n 0, 1) := by decide +kernel
theorem dX9_turnsOf_33 : decode cX9_turnsOf 33 = .ok (.invokevirtual 215, 3) := by decide +kernel
theorem dX9_turnsOf_36 : decode cX9_turnsOf 36 = .ok (.ldc 95, 2) := by decide +kernel
theorem dX9_turnsOf_38 : decode cX9_turnsOf 38 = .ok (.istore_n 2, 1) := by decide +kernel
theorem dX9_turnsOf_39 : decode cX9_turnsOf 39 = .ok (.iconst 1, 1) := by decide +kernel
theorem dX9_turnsOf_40 : decode cX9_turnsOf 40 = .ok (.istore_n 3, 1) := by decide +kernel
theorem dX9_turnsOf_41 : decode cX9_turnsOf 41 = .ok (.iload_n 3, 1) := by decide +kernel
theorem dX9_turnsOf_42 : decode cX9_turnsOf 42 = .ok (.bipush 20, 2) := by decide +kernel
theorem dX9_turnsOf_44 : decode cX9_turnsOf 44 = .ok (.if_icmp .gt 66, 3) := by decide +kernel
theorem dX9_turnsOf_47 : decode cX9_turnsOf 47 = .ok (.iload_n 2, 1) := by decide +kernel
theorem dX9_turnsOf_48 : decode cX9_turnsOf 48 = .ok (.ldc 95, 2) := by decide +kernel
theorem dX9_turnsOf_50 : decode cX9_turnsOf 50 = .ok (.if_icmp .ne 60, 3) := by decide +kernel
theorem dX9_turnsOf_53 : decode cX9_turnsOf 53 = .ok (.iconst 0, 1) := by decide +kernel
theorem dX9_turnsOf_54 : decode cX9_turnsOf 54 = .ok (.istore 4, 2) := by decide +kernel
theorem dX9_turnsOf_56 : decode cX9_turnsOf 56 = .ok (.iconst 0, 1) := by decide +kernel
theorem dX9_turnsOf_57 : decode cX9_turnsOf 57 = .ok (.istore 5, 2) := by decide +kernel
theorem dX9_turnsOf_59 : decode cX9_turnsOf 59 = .ok (.iload 5, 2) := by decide +kernel
theorem dX9_turnsOf_61 : decode cX9_turnsOf 61 = .ok (.iconst 5, 1) := by decide +kernel
theorem dX9_turnsOf_62 : decode cX9_turnsOf 62 = .ok (.if_icmp .ge 30, 3) := by decide +kernel
theorem dX9_turnsOf_65 : decode cX9_turnsOf 65 = .ok (.aload_n 0, 1) := by decide +kernel
theorem dX9_turnsOf_66 : decode cX9_turnsOf 66 = .ok (.iload 5, 2) := by decide +kernel
theorem dX9_turnsOf_68 : decode cX9_turnsOf 68 = .ok (.invokevirtual 243, 3) := by decide +kernel
theorem dX9_turnsOf_71 : decode cX9_turnsOf 71 = .ok (.ifCond .ne 8, 3) := by decide +kernel
theorem dX9_turnsOf_74 : decode cX9_turnsOf 74 = .ok (.iload 4, 2) := by decide +kernel
theorem dX9_turnsOf_76 : decode cX9_turnsOf 76 = .ok (.ifCond .eq 7, 3) := by decide +kernel
theorem dX9_turnsOf_79 : decode cX9_turnsOf 79 = .ok (.iconst 1, 1) := by decide +kernel
theorem dX9_turnsOf_80 : decode cX9_turnsOf 80 = .ok (.goto 4, 3) := by decide +kernel
theorem dX9_turnsOf_83 : decode cX9_turnsOf 83 = .ok (.iconst 0, 1) := by decide +kernel
theorem dX9_turnsOf_84 : decode cX9_turnsOf 84 = .ok (.istore 4, 2) := by decide +kernel
theorem dX9_turnsOf_86 : decode cX9_turnsOf 86 = .ok (.iinc 5 1, 3) := by decide +kernel
theorem dX9_turnsOf_89 : decode cX9_turnsOf 89 = .ok (.goto (-30), 3) := by decide +kernel
theorem dX9_turnsOf_92 : decode cX9_turnsOf 92 = .ok (.iload 4, 2) := by decide +kernel
theorem dX9_turnsOf_94 : decode cX9_turnsOf 94 = .ok (.ifCond .eq 8, 3) := by decide +kernel
theorem dX9_turnsOf_97 : decode cX9_turnsOf 97 = .ok (.ldc 95, 2) := by decide +kernel
theorem dX9_turnsOf_99 : decode cX9_turnsOf 99 = .ok (.goto 4, 3) := by decide +kernel
theorem dX9_turnsOf_102 : decode cX9_turnsOf 102 = .ok (.iload_n 3, 1) := by decide +kernel
theorem dX9_turnsOf_103 : decode cX9_turnsOf 103 = .ok (.istore_n 2, 1) := by decide +kernel
theorem dX9_turnsOf_104 : decode cX9_turnsOf 104 = .ok (.iinc 3 1, 3) := by decide +kernel
theorem dX9_turnsOf_107 : decode cX9_turnsOf 107 = .ok (.goto (-66), 3) := by decide +kernel
theorem dX9_turnsOf_110 : decode cX9_turnsOf 110 = .ok (.iload_n 1, 1) := by decide +kernel
theorem dX9_turnsOf_111 : decode cX9_turnsOf 111 = .ok (.ifCond .ge 5, 3) := by decide +kernel
theorem dX9_turnsOf_114 : decode cX9_turnsOf 114 = .ok (.iload_n 2, 1) := by decide +kernel
theorem dX9_turnsOf_115 : decode cX9_turnsOf 115 = .ok (.ireturn, 1) := by decide +kernel
theorem dX9_turnsOf_116 : decode cX9_turnsOf 116 = .ok (.iconst 0, 1) := by decide +kernel
theorem dX9_turnsOf_117 : decode cX9_turnsOf 117 = .ok (.istore_n 3, 1) := by decide +kernel
theorem dX9_turnsOf_118 : decode cX9_turnsOf 118 = .ok (.iload_n 3, 1) := by decide +kernel
theorem dX9_turnsOf_119 : decode cX9_turnsOf 119 = .ok (.aload_n 0, 1) := by decide +kernel
theorem dX9_turnsOf_120 : decode cX9_turnsOf 120 = .ok (.getfield 19, 3) := by decide +kernel
theorem dX9_turnsOf_123 : decode cX9_turnsOf 123 = .ok (.iconst 0, 1) := by decide +kernel
theorem dX9_turnsOf_124 : decode cX9_turnsOf 124 = .ok (.iaload, 1) := by decide +kernel
theorem dX9_turnsOf_125 : decode cX9_turnsOf 125 = .ok (.if_icmp .ge 26, 3) := by decide +kernel
theorem dX9_turnsOf_128 : decode cX9_turnsOf 128 = .ok (.aload_n 0, 1) := by decide +kernel
theorem dX9_turnsOf_129 : decode cX9_turnsOf 129 = .ok (.getfield 31, 3) := by decide +kernel
theorem dX9_turnsOf_132 : decode cX9_turnsOf 132 = .ok (.iload_n 3, 1) := by decide +kernel
theorem dX9_turnsOf_133 : decode cX9_turnsOf 133 = .ok (.iaload, 1) := by decide +kernel
theorem dX9_turnsOf_134 : decode cX9_turnsOf 134 = .ok (.iload_n 1, 1) := by decide +kernel
theorem dX9_turnsOf_135 : decode cX9_turnsOf 135 = .ok (.if_icmp .ne 10, 3) := by decide +kernel
theorem dX9_turnsOf_138 : decode cX9_turnsOf 138 = .ok (.aload_n 0, 1) := by decide +kernel
theorem dX9_turnsOf_139 : decode cX9_turnsOf 139 = .ok (.getfield 34, 3) := by decide +kernel
theorem dX9_turnsOf_142 : decode cX9_turnsOf 142 = .ok (.iload_n 3, 1) := by decide +kernel
theorem dX9_turnsOf_143 : decode cX9_turnsOf 143 = .ok (.iaload, 1) := by decide +kernel
theorem dX9_turnsOf_144 : decode cX9_turnsOf 144 = .ok (.ireturn, 1) := by decide +kernel
theorem dX9_turnsOf_145 : decode cX9_turnsOf 145 = .ok (.iinc 3 1, 3) := by decide +kernel
theorem dX9_turnsOf_148 : decode cX9_turnsOf 148 = .ok (.goto (-30), 3) := by decide +kernel
theorem dX9_turnsOf_151 : decode cX9_turnsOf 151 = .ok (.ldc 95, 2) := by decide +kernel
theorem dX9_turnsOf_153 : decode cX9_turnsOf 153 = .ok (.ireturn, 1) := by decide +kernel
theorem dX9_canTake_0 : decode cX9_canTake 0 = .ok (.aload_n 0, 1) := by decide +kernel
theorem dX9_canTake_1 : decode cX9_canTake 1 = .ok (.iload_n 1, 1) := by decide +kernel
theorem dX9_canTake_2 : decode cX9_canTake 2 = .ok (.invokevirtual 235, 3) := by decide +kernel
theorem dX9_canTake_5 : decode cX9_canTake 5 = .ok (.ifCond .ne 5, 3) := by decide +kernel
theorem dX9_canTake_8 : decode cX9_canTake 8 = .ok (.iconst 0, 1) := by decide +kernel
theorem dX9_canTake_9 : decode cX9_canTake 9 = .ok (.ireturn, 1) := by decide +kernel
theorem dX9_canTake_10 : decode cX9_canTake 10 = .ok (.aload_n 0, 1) := by decide +kernel
theorem dX9_canTake_11 : decode cX9_canTake 11 = .ok (.iload_n 1, 1) := by decide +kernel
theorem dX9_canTake_12 : decode cX9_canTake 12 = .ok (.invokevirtual 238, 3) := by decide +kernel
theorem dX9_canTake_15 : decode cX9_canTake 15 = .ok (.istore_n 2, 1) := by decide +kernel
theorem dX9_canTake_16 : decode cX9_canTake 16 = .ok (.aload_n 0, 1) := by decide +kernel
theorem dX9_canTake_17 : decode cX9_canTake 17 = .ok (.getfield 227, 3) := by decide +kernel
theorem dX9_canTake_20 : decode cX9_canTake 20 = .ok (.ireturn, 1) := by decide +kernel
theorem dX9_shares_0 : decode cX9_shares 0 = .ok (.aload_n 0, 1) := by decide +kernel
theorem dX9_shares_1 : decode cX9_shares 1 = .ok (.iconst 0, 1) := by decide +kernel
theorem dX9_shares_2 : decode cX9_shares 2 = .ok (.putfield 59, 3) := by decide +kernel
theorem dX9_shares_5 : decode cX9_shares 5 = .ok (.aload_n 0, 1) := by decide +kernel
theorem dX9_shares_6 : decode cX9_shares 6 = .ok (.getfield 170, 3) := by decide +kernel
theorem dX9_shares_9 : decode cX9_shares 9 = .ok (.ifCond .ne 6, 3) := by decide +kernel
theorem dX9_shares_12 : decode cX9_shares 12 = .ok (.ldc 194, 2) := by decide +kernel
theorem dX9_shares_14 : decode cX9_shares 14 = .ok (.ireturn, 1) := by decide +kernel
theorem dX9_shares_15 : decode cX9_shares 15 = .ok (.iload_n 1, 1) := by decide +kernel
theorem dX9_shares_16 : decode cX9_shares 16 = .ok (.invokestatic 191, 3) := by decide +kernel
theorem dX9_shares_19 : decode cX9_shares 19 = .ok (.ifCond .eq 45, 3) := by decide +kernel
theorem dX9_shares_22 : decode cX9_shares 22 = .ok (.iload_n 2, 1) := by decide +kernel
theorem dX9_shares_23 : decode cX9_shares 23 = .ok (.invokestatic 191, 3) := by decide +kernel
theorem dX9_shares_26 : decode cX9_shares 26 = .ok (.ifCond .eq 38, 3) := by decide +kernel
theorem dX9_shares_29 : decode cX9_shares 29 = .ok (.iload_n 3, 1) := by decide +kernel
theorem dX9_shares_30 : decode cX9_shares 30 = .ok (.invokestatic 191, 3) := by decide +kernel
theorem dX9_shares_33 : decode cX9_shares 33 = .ok (.ifCond .eq 31, 3) := by decide +kernel
theorem dX9_shares_36 : decode cX9_shares 36 = .ok (.iload_n 1, 1) := by decide +kernel
theorem dX9_shares_37 : decode cX9_shares 37 = .ok (.iload_n 2, 1) := by decide +kernel
theorem dX9_shares_38 : decode cX9_shares 38 = .ok (.if_icmp .eq 26, 3) := by decide +kernel
theorem dX9_shares_41 : decode cX9_shares 41 = .ok (.iload_n 1, 1) := by decide +kernel
theorem dX9_shares_42 : decode cX9_shares 42 = .ok (.iload_n 3, 1) := by decide +kernel
theorem dX9_shares_43 : decode cX9_shares 43 = .ok (.if_icmp .eq 21, 3) := by decide +kernel
theorem dX9_shares_46 : decode cX9_shares 46 = .ok (.iload_n 2, 1) := by decide +kernel
theorem dX9_shares_47 : decode cX9_shares 47 = .ok (.iload_n 3, 1) := by decide +kernel
theorem dX9_shares_48 : decode cX9_shares 48 = .ok (.if_icmp .eq 16, 3) := by decide +kernel
theorem dX9_shares_51 : decode cX9_shares 51 = .ok (.iload 4, 2) := by decide +kernel
theorem dX9_shares_53 : decode cX9_shares 53 = .ok (.i2l, 1) := by decide +kernel
theorem dX9_shares_54 : decode cX9_shares 54 = .ok (.lconst 0, 1) := by decide +kernel
theorem dX9_shares_55 : decode cX9_shares 55 = .ok (.ldc2_w 77, 3) := by decide +kernel
theorem dX9_shares_58 : decode cX9_shares 58 = .ok (.invokestatic 69, 3) := by decide +kernel
theorem dX9_shares_61 : decode cX9_shares 61 = .ok (.ifCond .ne 6, 3) := by decide +kernel
theorem dX9_shares_64 : decode cX9_shares 64 = .ok (.ldc 79, 2) := by decide +kernel
theorem dX9_shares_66 : decode cX9_shares 66 = .ok (.ireturn, 1) := by decide +kernel
theorem dX9_shares_67 : decode cX9_shares 67 = .ok (.aload_n 0, 1) := by decide +kernel
theorem dX9_shares_68 : decode cX9_shares 68 = .ok (.invokevirtual 215, 3) := by decide +kernel
theorem dX9_shares_71 : decode cX9_shares 71 = .ok (.aload_n 0, 1) := by decide +kernel
theorem dX9_shares_72 : decode cX9_shares 72 = .ok (.iconst 1, 1) := by decide +kernel
theorem dX9_shares_73 : decode cX9_shares 73 = .ok (.iload_n 1, 1) := by decide +kernel
theorem dX9_shares_74 : decode cX9_shares 74 = .ok (.ishl, 1) := by decide +kernel
theorem dX9_shares_75 : decode cX9_shares 75 = .ok (.iconst 1, 1) := by decide +kernel
theorem dX9_shares_76 : decode cX9_shares 76 = .ok (.iload_n 2, 1) := by decide +kernel
theorem dX9_shares_77 : decode cX9_shares 77 = .ok (.ishl, 1) := by decide +kernel
theorem dX9_shares_78 : decode cX9_shares 78 = .ok (.ior, 1) := by decide +kernel
theorem dX9_shares_79 : decode cX9_shares 79 = .ok (.iconst 1, 1) := by decide +kernel
theorem dX9_shares_80 : decode cX9_shares 80 = .ok (.iload_n 3, 1) := by decide +kernel
theorem dX9_shares_81 : decode cX9_shares 81 = .ok (.ishl, 1) := by decide +kernel
theorem dX9_shares_82 : decode cX9_shares 82 = .ok (.ior, 1) := by decide +kernel
theorem dX9_shares_83 : decode cX9_shares 83 = .ok (.invokevirtual 246, 3) := by decide +kernel
theorem dX9_shares_86 : decode cX9_shares 86 = .ok (.istore 5, 2) := by decide +kernel
theorem dX9_shares_88 : decode cX9_shares 88 = .ok (.aload_n 0, 1) := by decide +kernel
theorem dX9_shares_89 : decode cX9_shares 89 = .ok (.iconst 1, 1) := by decide +kernel
theorem dX9_shares_90 : decode cX9_shares 90 = .ok (.iload_n 1, 1) := by decide +kernel
theorem dX9_shares_91 : decode cX9_shares 91 = .ok (.ishl, 1) := by decide +kernel
theorem dX9_shares_92 : decode cX9_shares 92 = .ok (.invokevirtual 246, 3) := by decide +kernel
theorem dX9_shares_95 : decode cX9_shares 95 = .ok (.istore 6, 2) := by decide +kernel
theorem dX9_shares_97 : decode cX9_shares 97 = .ok (.aload_n 0, 1) := by decide +kernel
theorem dX9_shares_98 : decode cX9_shares 98 = .ok (.iconst 1, 1) := by decide +kernel
theorem dX9_shares_99 : decode cX9_shares 99 = .ok (.iload_n 2, 1) := by decide +kernel
theorem dX9_shares_100 : decode cX9_shares 100 = .ok (.ishl, 1) := by decide +kernel
theorem dX9_shares_101 : decode cX9_shares 101 = .ok (.invokevirtual 246, 3) := by decide +kernel
theorem dX9_shares_104 : decode cX9_shares 104 = .ok (.istore 7, 2) := by decide +kernel
theorem dX9_shares_106 : decode cX9_shares 106 = .ok (.aload_n 0, 1) := by decide +kernel
theorem dX9_shares_107 : decode cX9_shares 107 = .ok (.iconst 1, 1) := by decide +kernel
theorem dX9_shares_108 : decode cX9_shares 108 = .ok (.iload_n 3, 1) := by decide +kernel
theorem dX9_shares_109 : decode cX9_shares 109 = .ok (.ishl, 1) := by decide +kernel
theorem dX9_shares_110 : decode cX9_shares 110 = .ok (.invokevirtual 246, 3) := by decide +kernel
theorem dX9_shares_113 : decode cX9_shares 113 = .ok (.istore 8, 2) := by decide +kernel
theorem dX9_shares_115 : decode cX9_shares 115 = .ok (.aload_n 0, 1) := by decide +kernel
theorem dX9_shares_116 : decode cX9_shares 116 = .ok (.iconst 1, 1) := by decide +kernel
theorem dX9_shares_117 : decode cX9_shares 117 = .ok (.iload_n 1, 1) := by decide +kernel
theorem dX9_shares_118 : decode cX9_shares 118 = .ok (.ishl, 1) := by decide +kernel
theorem dX9_shares_119 : decode cX9_shares 119 = .ok (.iconst 1, 1) := by decide +kernel
theorem dX9_shares_120 : decode cX9_shares 120 = .ok (.iload_n 2, 1) := by decide +kernel
theorem dX9_shares_121 : decode cX9_shares 121 = .ok (.ishl, 1) := by decide +kernel
theorem dX9_shares_122 : decode cX9_shares 122 = .ok (.ior, 1) := by decide +kernel
theorem dX9_shares_123 : decode cX9_shares 123 = .ok (.invokevirtual 246, 3) := by decide +kernel
theorem dX9_shares_126 : decode cX9_shares 126 = .ok (.istore 9, 2) := by decide +kernel
theorem dX9_shares_128 : decode cX9_shares 128 = .ok (.aload_n 0, 1) := by decide +kernel
theorem dX9_shares_129 : decode cX9_shares 129 = .ok (.iconst 1, 1) := by decide +kernel
theorem dX9_shares_130 : decode cX9_shares 130 = .ok (.iload_n 1, 1) := by decide +kernel
theorem dX9_shares_131 : decode cX9_shares 131 = .ok (.ishl, 1) := by decide +kernel
theorem dX9_shares_132 : decode cX9_shares 132 = .ok (.iconst 1, 1) := by decide +kernel
theorem dX9_shares_133 : decode cX9_shares 133 = .ok (.iload_n 3, 1) := by decide +kernel
theorem dX9_shares_134 : decode cX9_shares 134 = .ok (.ishl, 1) := by decide +kernel
theorem dX9_shares_135 : decode cX9_shares 135 = .ok (.ior, 1) := by decide +kernel
theorem dX9_shares_136 : decode cX9_shares 136 = .ok (.invokevirtual 246, 3) := by decide +kernel
theorem dX9_shares_139 : decode cX9_shares 139 = .ok (.istore 10, 2) := by decide +kernel
theorem dX9_shares_141 : decode cX9_shares 141 = .ok (.aload_n 0, 1) := by decide +kernel
theorem dX9_shares_142 : decode cX9_shares 142 = .ok (.iconst 1, 1) := by decide +kernel
theorem dX9_shares_143 : decode cX9_shares 143 = .ok (.iload_n 2, 1) := by decide +kernel
theorem dX9_shares_144 : decode cX9_shares 144 = .ok (.ishl, 1) := by decide +kernel
theorem dX9_shares_145 : decode cX9_shares 145 = .ok (.iconst 1, 1) := by decide +kernel
theorem dX9_shares_146 : decode cX9_shares 146 = .ok (.iload_n 3, 1) := by decide +kernel
theorem dX9_shares_147 : decode cX9_shares 147 = .ok (.ishl, 1) := by decide +kernel
theorem dX9_shares_148 : decode cX9_shares 148 = .ok (.ior, 1) := by decide +kernel
theorem dX9_shares_149 : decode cX9_shares 149 = .ok (.invokevirtual 246, 3) := by decide +kernel
theorem dX9_shares_152 : decode cX9_shares 152 = .ok (.istore 11, 2) := by decide +kernel
theorem dX9_shares_154 : decode cX9_shares 154 = .ok (.iload 6, 2) := by decide +kernel
theorem dX9_shares_156 : decode cX9_shares 156 = .ok (.istore 12, 2) := by decide +kernel
theorem dX9_shares_158 : decode cX9_shares 158 = .ok (.iload 12, 2) := by decide +kernel
theorem dX9_shares_160 : decode cX9_shares 160 = .ok (.iload 5, 2) := by decide +kernel
theorem dX9_shares_162 : decode cX9_shares 162 = .ok (.iload 11, 2) := by decide +kernel
theorem dX9_shares_164 : decode cX9_shares 164 = .ok (.isub, 1) := by decide +kernel
theorem dX9_shares_165 : decode cX9_shares 165 = .ok (.if_icmp .gt 82, 3) := by decide +kernel
theorem dX9_shares_168 : decode cX9_shares 168 = .ok (.iload 9, 2) := by decide +kernel
theorem dX9_shares_170 : decode cX9_shares 170 = .ok (.iload 12, 2) := by decide +kernel
theorem dX9_shares_172 : decode cX9_shares 172 = .ok (.isub, 1) := by decide +kernel
theorem dX9_shares_173 : decode cX9_shares 173 = .ok (.iload 7, 2) := by decide +kernel
theorem dX9_shares_175 : decode cX9_shares 175 = .ok (.if_icmp .le 11, 3) := by decide +kernel
theorem dX9_shares_178 : decode cX9_shares 178 = .ok (.iload 9, 2) := by decide +kernel
theorem dX9_shares_180 : decode cX9_shares 180 = .ok (.iload 12, 2) := by decide +kernel
theorem dX9_shares_182 : decode cX9_shares 182 = .ok (.isub, 1) := by decide +kernel
theorem dX9_shares_183 : decode cX9_shares 183 = .ok (.goto 5, 3) := by decide +kernel
theorem dX9_shares_186 : decode cX9_shares 186 = .ok (.iload 7, 2) := by decide +kernel
theorem dX9_shares_188 : decode cX9_shares 188 = .ok (.istore 13, 2) := by decide +kernel
theorem dX9_shares_190 : decode cX9_shares 190 = .ok (.iload 5, 2) := by decide +kernel
theorem dX9_shares_192 : decode cX9_shares 192 = .ok (.iload 12, 2) := by decide +kernel
theorem dX9_shares_194 : decode cX9_shares 194 = .ok (.isub, 1) := by decide +kernel
theorem dX9_shares_195 : decode cX9_shares 195 = .ok (.iload 13, 2) := by decide +kernel
theorem dX9_shares_197 : decode cX9_shares 197 = .ok (.isub, 1) := by decide +kernel
theorem dX9_shares_198 : decode cX9_shares 198 = .ok (.istore 14, 2) := by decide +kernel
theorem dX9_shares_200 : decode cX9_shares 200 = .ok (.iload 14, 2) := by decide +kernel
theorem dX9_shares_202 : decode cX9_shares 202 = .ok (.iload 8, 2) := by decide +kernel
theorem dX9_shares_204 : decode cX9_shares 204 = .ok (.if_icmp .lt 37, 3) := by decide +kernel
theorem dX9_shares_207 : decode cX9_shares 207 = .ok (.iload 12, 2) := by decide +kernel
theorem dX9_shares_209 : decode cX9_shares 209 = .ok (.iload 14, 2) := by decide +kernel
theorem dX9_shares_211 : decode cX9_shares 211 = .ok (.iadd, 1) := by decide +kernel
theorem dX9_shares_212 : decode cX9_shares 212 = .ok (.iload 10, 2) := by decide +kernel
theorem dX9_shares_214 : decode cX9_shares 214 = .ok (.if_icmp .lt 27, 3) := by decide +kernel
theorem dX9_shares_217 : decode cX9_shares 217 = .ok (.iload 4, 2) := by decide +kernel
theorem dX9_shares_219 : decode cX9_shares 219 = .ok (.ifCond .ne 8, 3) := by decide +kernel
theorem dX9_shares_222 : decode cX9_shares 222 = .ok (.iload 12, 2) := by decide +kernel
theorem dX9_shares_224 : decode cX9_shares 224 = .ok (.goto 16, 3) := by decide +kernel
theorem dX9_shares_227 : decode cX9_shares 227 = .ok (.iload 4, 2) := by decide +kernel
theorem dX9_shares_229 : decode cX9_shares 229 = .ok (.iconst 1, 1) := by decide +kernel
theorem dX9_shares_230 : decode cX9_shares 230 = .ok (.if_icmp .ne 8, 3) := by decide +kernel
theorem dX9_shares_233 : decode cX9_shares 233 = .ok (.iload 13, 2) := by decide +kernel
theorem dX9_shares_235 : decode cX9_shares 235 = .ok (.goto 5, 3) := by decide +kernel
theorem dX9_shares_238 : decode cX9_shares 238 = .ok (.iload 14, 2) := by decide +kernel
theorem dX9_shares_240 : decode cX9_shares 240 = .ok (.ireturn, 1) := by decide +kernel
theorem dX9_shares_241 : decode cX9_shares 241 = .ok (.iinc 12 1, 3) := by decide +kernel
theorem dX9_shares_244 : decode cX9_shares 244 = .ok (.goto (-86), 3) := by decide +kernel
theorem dX9_shares_247 : decode cX9_shares 247 = .ok (.ldc 95, 2) := by decide +kernel
theorem dX9_shares_249 : decode cX9_shares 249 = .ok (.ireturn, 1) := by decide +kernel
theorem dX9_planks_0 : decode cX9_planks 0 = .ok (.aload_n 0, 1) := by decide +kernel
theorem dX9_planks_1 : decode cX9_planks 1 = .ok (.iconst 0, 1) := by decide +kernel
theorem dX9_planks_2 : decode cX9_planks 2 = .ok (.putfield 59, 3) := by decide +kernel
theorem dX9_planks_5 : decode cX9_planks 5 = .ok (.aload_n 0, 1) := by decide +kernel
theorem dX9_planks_6 : decode cX9_planks 6 = .ok (.iload_n 1, 1) := by decide +kernel
theorem dX9_planks_7 : decode cX9_planks 7 = .ok (.invokevirtual 212, 3) := by decide +kernel
theorem dX9_planks_10 : decode cX9_planks 10 = .ok (.ifCond .ne 6, 3) := by decide +kernel
theorem dX9_planks_13 : decode cX9_planks 13 = .ok (.ldc 79, 2) := by decide +kernel
theorem dX9_planks_15 : decode cX9_planks 15 = .ok (.ireturn, 1) := by decide +kernel
theorem dX9_planks_16 : decode cX9_planks 16 = .ok (.aload_n 0, 1) := by decide +kernel
theorem dX9_planks_17 : decode cX9_planks 17 = .ok (.invokevirtual 215, 3) := by decide +kernel
theorem dX9_planks_20 : decode cX9_planks 20 = .ok (.iconst 0, 1) := by decide +kernel
theorem dX9_planks_21 : decode cX9_planks 21 = .ok (.istore_n 2, 1) := by decide +kernel
theorem dX9_planks_22 : decode cX9_planks 22 = .ok (.iload_n 2, 1) := by decide +kernel
theorem dX9_planks_23 : decode cX9_planks 23 = .ok (.aload_n 0, 1) := by decide +kernel
theorem dX9_planks_24 : decode cX9_planks 24 = .ok (.getfield 19, 3) := by decide +kernel
theorem dX9_planks_27 : decode cX9_planks 27 = .ok (.iconst 0, 1) := by decide +kernel
theorem dX9_planks_28 : decode cX9_planks 28 = .ok (.iaload, 1) := by decide +kernel
theorem dX9_planks_29 : decode cX9_planks 29 = .ok (.if_icmp .ge 29, 3) := by decide +kernel
theorem dX9_planks_32 : decode cX9_planks 32 = .ok (.aload_n 0, 1) := by decide +kernel
theorem dX9_planks_33 : decode cX9_planks 33 = .ok (.getfield 34, 3) := by decide +kernel
theorem dX9_planks_36 : decode cX9_planks 36 = .ok (.iload_n 2, 1) := by decide +kernel
theorem dX9_planks_37 : decode cX9_planks 37 = .ok (.aload_n 0, 1) := by decide +kernel
theorem dX9_planks_38 : decode cX9_planks 38 = .ok (.getfield 34, 3) := by decide +kernel
theorem dX9_planks_41 : decode cX9_planks 41 = .ok (.iload_n 2, 1) := by decide +kernel
theorem dX9_planks_42 : decode cX9_planks 42 = .ok (.iaload, 1) := by decide +kernel
theorem dX9_planks_43 : decode cX9_planks 43 = .ok (.ifCond .le 7, 3) := by decide +kernel
theorem dX9_planks_46 : decode cX9_planks 46 = .ok (.iconst 1, 1) := by decide +kernel
theorem dX9_planks_47 : decode cX9_planks 47 = .ok (.goto 4, 3) := by decide +kernel
theorem dX9_planks_50 : decode cX9_planks 50 = .ok (.iconst 0, 1) := by decide +kernel
theorem dX9_planks_51 : decode cX9_planks 51 = .ok (.iastore, 1) := by decide +kernel
theorem dX9_planks_52 : decode cX9_planks 52 = .ok (.iinc 2 1, 3) := by decide +kernel
theorem dX9_planks_55 : decode cX9_planks 55 = .ok (.goto (-33), 3) := by decide +kernel
theorem dX9_planks_58 : decode cX9_planks 58 = .ok (.aload_n 0, 1) := by decide +kernel
theorem dX9_planks_59 : decode cX9_planks 59 = .ok (.iload_n 1, 1) := by decide +kernel
theorem dX9_planks_60 : decode cX9_planks 60 = .ok (.invokevirtual 218, 3) := by decide +kernel
theorem dX9_planks_63 : decode cX9_planks 63 = .ok (.aload_n 0, 1) := by decide +kernel
theorem dX9_planks_64 : decode cX9_planks 64 = .ok (.invokevirtual 205, 3) := by decide +kernel
theorem dX9_planks_67 : decode cX9_planks 67 = .ok (.ifCond .eq 12, 3) := by decide +kernel
theorem dX9_planks_70 : decode cX9_planks 70 = .ok (.aload_n 0, 1) := by decide +kernel
theorem dX9_planks_71 : decode cX9_planks 71 = .ok (.getfield 37, 3) := by decide +kernel
theorem dX9_planks_74 : decode cX9_planks 74 = .ok (.iconst 0, 1) := by decide +kernel
theorem dX9_planks_75 : decode cX9_planks 75 = .ok (.iaload, 1) := by decide +kernel
theorem dX9_planks_76 : decode cX9_planks 76 = .ok (.goto 5, 3) := by decide +kernel
theorem dX9_planks_79 : decode cX9_planks 79 = .ok (.ldc 95, 2) := by decide +kernel
theorem dX9_planks_81 : decode cX9_planks 81 = .ok (.ireturn, 1) := by decide +kernel
theorem dX9_mean_0 : decode cX9_mean 0 = .ok (.aload_n 0, 1) := by decide +kernel
theorem dX9_mean_1 : decode cX9_mean 1 = .ok (.iconst 0, 1) := by decide +kernel
theorem dX9_mean_2 : decode cX9_mean 2 = .ok (.putfield 59, 3) := by decide +kernel
theorem dX9_mean_5 : decode cX9_mean 5 = .ok (.aload_n 0, 1) := by decide +kernel
theorem dX9_mean_6 : decode cX9_mean 6 = .ok (.getfield 170, 3) := by decide +kernel
theorem dX9_mean_9 : decode cX9_mean 9 = .ok (.ifCond .ne 6, 3) := by decide +kernel
theorem dX9_mean_12 : decode cX9_mean 12 = .ok (.ldc 194, 2) := by decide +kernel
theorem dX9_mean_14 : decode cX9_mean 14 = .ok (.ireturn, 1) := by decide +kernel
theorem dX9_mean_15 : decode cX9_mean 15 = .ok (.iload_n 1, 1) := by decide +kernel
theorem dX9_mean_16 : decode cX9_mean 16 = .ok (.invokestatic 191, 3) := by decide +kernel
theorem dX9_mean_19 : decode cX9_mean 19 = .ok (.ifCond .eq 13, 3) := by decide +kernel
theorem dX9_mean_22 : decode cX9_mean 22 = .ok (.iload_n 2, 1) := by decide +kernel
theorem dX9_mean_23 : decode cX9_mean 23 = .ok (.i2l, 1) := by decide +kernel
theorem dX9_mean_24 : decode cX9_mean 24 = .ok (.lconst 0, 1) := by decide +kernel
theorem dX9_mean_25 : decode cX9_mean 25 = .ok (.lconst 1, 1) := by decide +kernel
theorem dX9_mean_26 : decode cX9_mean 26 = .ok (.invokestatic 69, 3) := by decide +kernel
theorem dX9_mean_29 : decode cX9_mean 29 = .ok (.ifCond .ne 6, 3) := by decide +kernel
theorem dX9_mean_32 : decode cX9_mean 32 = .ok (.ldc 79, 2) := by decide +kernel
theorem dX9_mean_34 : decode cX9_mean 34 = .ok (.ireturn, 1) := by decide +kernel
theorem dX9_mean_35 : decode cX9_mean 35 = .ok (.iconst 0, 1) := by decide +kernel
theorem dX9_mean_36 : decode cX9_mean 36 = .ok (.istore_n 3, 1) := by decide +kernel
theorem dX9_mean_37 : decode cX9_mean 37 = .ok (.iconst 0, 1) := by decide +kernel
theorem dX9_mean_38 : decode cX9_mean 38 = .ok (.istore 4, 2) := by decide +kernel
theorem dX9_mean_40 : decode cX9_mean 40 = .ok (.iload 4, 2) := by decide +kernel
theorem dX9_mean_42 : decode cX9_mean 42 = .ok (.aload_n 0, 1) := by decide +kernel
theorem dX9_mean_43 : decode cX9_mean 43 = .ok (.getfield 19, 3) := by decide +kernel
theorem dX9_mean_46 : decode cX9_mean 46 = .ok (.iconst 1, 1) := by decide +kernel
theorem dX9_mean_47 : decode cX9_mean 47 = .ok (.iaload, 1) := by decide +kernel
theorem dX9_mean_48 : decode cX9_mean 48 = .ok (.if_icmp .ge 19, 3) := by decide +kernel
theorem dX9_mean_51 : decode cX9_mean 51 = .ok (.iload_n 3, 1) := by decide +kernel
theorem dX9_mean_52 : decode cX9_mean 52 = .ok (.aload_n 0, 1) := by decide +kernel
theorem dX9_mean_53 : decode cX9_mean 53 = .ok (.iload 4, 2) := by decide +kernel
theorem dX9_mean_55 : decode cX9_mean 55 = .ok (.iconst 3, 1) := by decide +kernel
theorem dX9_mean_56 : decode cX9_mean 56 = .ok (.invokevirtual 199, 3) := by decide +kernel
theorem dX9_mean_59 : decode cX9_mean 59 = .ok (.iadd, 1) := by decide +kernel
theorem dX9_mean_60 : decode cX9_mean 60 = .ok (.istore_n 3, 1) := by decide +kernel
theorem dX9_mean_61 : decode cX9_mean 61 = .ok (.iinc 4 1, 3) := by decide +kernel
theorem dX9_mean_64 : decode cX9_mean 64 = .ok (.goto (-24), 3) := by decide +kernel
theorem dX9_mean_67 : decode cX9_mean 67 = .ok (.iload_n 3, 1) := by decide +kernel
theorem dX9_mean_68 : decode cX9_mean 68 = .ok (.ifCond .ne 6, 3) := by decide +kernel
theorem dX9_mean_71 : decode cX9_mean 71 = .ok (.ldc 95, 2) := by decide +kernel
theorem dX9_mean_73 : decode cX9_mean 73 = .ok (.ireturn, 1) := by decide +kernel
theorem dX9_mean_74 : decode cX9_mean 74 = .ok (.aload_n 0, 1) := by decide +kernel
theorem dX9_mean_75 : decode cX9_mean 75 = .ok (.invokevirtual 215, 3) := by decide +kernel
theorem dX9_mean_78 : decode cX9_mean 78 = .ok (.aload_n 0, 1) := by decide +kernel
theorem dX9_mean_79 : decode cX9_mean 79 = .ok (.iconst 1, 1) := by decide +kernel
theorem dX9_mean_80 : decode cX9_mean 80 = .ok (.iload_n 1, 1) := by decide +kernel
theorem dX9_mean_81 : decode cX9_mean 81 = .ok (.ishl, 1) := by decide +kernel
theorem dX9_mean_82 : decode cX9_mean 82 = .ok (.invokevirtual 224, 3) := by decide +kernel
theorem dX9_mean_85 : decode cX9_mean 85 = .ok (.istore 4, 2) := by decide +kernel
theorem dX9_mean_87 : decode cX9_mean 87 = .ok (.iload 4, 2) := by decide +kernel
theorem dX9_mean_89 : decode cX9_mean 89 = .ok (.istore 5, 2) := by decide +kernel
theorem dX9_mean_91 : decode cX9_mean 91 = .ok (.iload_n 3, 1) := by decide +kernel
theorem dX9_mean_92 : decode cX9_mean 92 = .ok (.istore 6, 2) := by decide +kernel
theorem dX9_mean_94 : decode cX9_mean 94 = .ok (.iload 6, 2) := by decide +kernel
theorem dX9_mean_96 : decode cX9_mean 96 = .ok (.ifCond .eq 21, 3) := by decide +kernel
theorem dX9_mean_99 : decode cX9_mean 99 = .ok (.iload 5, 2) := by decide +kernel
theorem dX9_mean_101 : decode cX9_mean 101 = .ok (.iload 6, 2) := by decide +kernel
theorem dX9_mean_103 : decode cX9_mean 103 = .ok (.irem, 1) := by decide +kernel
theorem dX9_mean_104 : decode cX9_mean 104 = .ok (.istore 7, 2) := by decide +kernel
theorem dX9_mean_106 : decode cX9_mean 106 = .ok (.iload 6, 2) := by decide +kernel
theorem dX9_mean_108 : decode cX9_mean 108 = .ok (.istore 5, 2) := by decide +kernel
theorem dX9_mean_110 : decode cX9_mean 110 = .ok (.iload 7, 2) := by decide +kernel
theorem dX9_mean_112 : decode cX9_mean 112 = .ok (.istore 6, 2) := by decide +kernel
theorem dX9_mean_114 : decode cX9_mean 114 = .ok (.goto (-20), 3) := by decide +kernel
theorem dX9_mean_117 : decode cX9_mean 117 = .ok (.iload_n 2, 1) := by decide +kernel
theorem dX9_mean_118 : decode cX9_mean 118 = .ok (.ifCond .ne 8, 3) := by decide +kernel
theorem dX9_mean_121 : decode cX9_mean 121 = .ok (.iload 4, 2) := by decide +kernel
theorem dX9_mean_123 : decode cX9_mean 123 = .ok (.goto 4, 3) := by decide +kernel
theorem dX9_mean_126 : decode cX9_mean 126 = .ok (.iload_n 3, 1) := by decide +kernel
theorem dX9_mean_127 : decode cX9_mean 127 = .ok (.iload 5, 2) := by decide +kernel
theorem dX9_mean_129 : decode cX9_mean 129 = .ok (.idiv, 1) := by decide +kernel
theorem dX9_mean_130 : decode cX9_mean 130 = .ok (.ireturn, 1) := by decide +kernel
theorem dX9_isJust_0 : decode cX9_isJust 0 = .ok (.aload_n 0, 1) := by decide +kernel
theorem dX9_isJust_1 : decode cX9_isJust 1 = .ok (.invokevirtual 205, 3) := by decide +kernel
theorem dX9_isJust_4 : decode cX9_isJust 4 = .ok (.ifCond .eq 17, 3) := by decide +kernel
theorem dX9_isJust_7 : decode cX9_isJust 7 = .ok (.aload_n 0, 1) := by decide +kernel
theorem dX9_isJust_8 : decode cX9_isJust 8 = .ok (.getfield 40, 3) := by decide +kernel
theorem dX9_isJust_11 : decode cX9_isJust 11 = .ok (.iconst 0, 1) := by decide +kernel
theorem dX9_isJust_12 : decode cX9_isJust 12 = .ok (.iaload, 1) := by decide +kernel
theorem dX9_isJust_13 : decode cX9_isJust 13 = .ok (.iload_n 2, 1) := by decide +kernel
theorem dX9_isJust_14 : decode cX9_isJust 14 = .ok (.if_icmp .ne 7, 3) := by decide +kernel
theorem dX9_isJust_17 : decode cX9_isJust 17 = .ok (.iconst 1, 1) := by decide +kernel
theorem dX9_isJust_18 : decode cX9_isJust 18 = .ok (.goto 4, 3) := by decide +kernel
theorem dX9_isJust_21 : decode cX9_isJust 21 = .ok (.iconst 0, 1) := by decide +kernel
theorem dX9_isJust_22 : decode cX9_isJust 22 = .ok (.istore_n 3, 1) := by decide +kernel
theorem dX9_isJust_23 : decode cX9_isJust 23 = .ok (.aload_n 0, 1) := by decide +kernel
theorem dX9_isJust_24 : decode cX9_isJust 24 = .ok (.getfield 43, 3) := by decide +kernel
theorem dX9_isJust_27 : decode cX9_isJust 27 = .ok (.iconst 0, 1) := by decide +kernel
theorem dX9_isJust_28 : decode cX9_isJust 28 = .ok (.iaload, 1) := by decide +kernel
theorem dX9_isJust_29 : decode cX9_isJust 29 = .ok (.istore 4, 2) := by decide +kernel
theorem dX9_isJust_31 : decode cX9_isJust 31 = .ok (.iconst 0, 1) := by decide +kernel
theorem dX9_isJust_32 : decode cX9_isJust 32 = .ok (.istore 5, 2) := by decide +kernel
theorem dX9_isJust_34 : decode cX9_isJust 34 = .ok (.iload 5, 2) := by decide +kernel
theorem dX9_isJust_36 : decode cX9_isJust 36 = .ok (.iload_n 2, 1) := by decide +kernel
theorem dX9_isJust_37 : decode cX9_isJust 37 = .ok (.if_icmp .ge 53, 3) := by decide +kernel
theorem dX9_isJust_40 : decode cX9_isJust 40 = .ok (.iload_n 3, 1) := by decide +kernel
theorem dX9_isJust_41 : decode cX9_isJust 41 = .ok (.ifCond .eq 49, 3) := by decide +kernel
theorem dX9_isJust_44 : decode cX9_isJust 44 = .ok (.iload 4, 2) := by decide +kernel
theorem dX9_isJust_46 : decode cX9_isJust 46 = .ok (.aload_n 0, 1) := by decide +kernel
theorem dX9_isJust_47 : decode cX9_isJust 47 = .ok (.getfield 16, 3) := by decide +kernel
theorem dX9_isJust_50 : decode cX9_isJust 50 = .ok (.iload_n 1, 1) := by decide +kernel
theorem dX9_isJust_51 : decode cX9_isJust 51 = .ok (.iload 5, 2) := by decide +kernel
theorem dX9_isJust_53 : decode cX9_isJust 53 = .ok (.iadd, 1) := by decide +kernel
theorem dX9_isJust_54 : decode cX9_isJust 54 = .ok (.iaload, 1) := by decide +kernel
theorem dX9_isJust_55 : decode cX9_isJust 55 = .ok (.if_icmp .ne 7, 3) := by decide +kernel
theorem dX9_isJust_58 : decode cX9_isJust 58 = .ok (.iconst 1, 1) := by decide +kernel
theorem dX9_isJust_59 : decode cX9_isJust 59 = .ok (.goto 4, 3) := by decide +kernel
theorem dX9_isJust_62 : decode cX9_isJust 62 = .ok (.iconst 0, 1) := by decide +kernel
theorem dX9_isJust_63 : decode cX9_isJust 63 = .ok (.istore_n 3, 1) := by decide +kernel
theorem dX9_isJust_64 : decode cX9_isJust 64 = .ok (.iload_n 3, 1) := by decide +kernel
theorem dX9_isJust_65 : decode cX9_isJust 65 = .ok (.ifCond .eq 15, 3) := by decide +kernel
theorem dX9_isJust_68 : decode cX9_isJust 68 = .ok (.aload_n 0, 1) := by decide +kernel
theorem dX9_isJust_69 : decode cX9_isJust 69 = .ok (.getfield 43, 3) := by decide +kernel
theorem dX9_isJust_72 : decode cX9_isJust 72 = .ok (.iload 4, 2) := by decide +kernel
theorem dX9_isJust_74 : decode cX9_isJust 74 = .ok (.iconst 1, 1) := by decide +kernel
theorem dX9_isJust_75 : decode cX9_isJust 75 = .ok (.iadd, 1) := by decide +kernel
theorem dX9_isJust_76 : decode cX9_isJust 76 = .ok (.iaload, 1) := by decide +kernel
theorem dX9_isJust_77 : decode cX9_isJust 77 = .ok (.goto 5, 3) := by decide +kernel
theorem dX9_isJust_80 : decode cX9_isJust 80 = .ok (.iload 4, 2) := by decide +kernel
theorem dX9_isJust_82 : decode cX9_isJust 82 = .ok (.istore 4, 2) := by decide +kernel
theorem dX9_isJust_84 : decode cX9_isJust 84 = .ok (.iinc 5 1, 3) := by decide +kernel
theorem dX9_isJust_87 : decode cX9_isJust 87 = .ok (.goto (-53), 3) := by decide +kernel
theorem dX9_isJust_90 : decode cX9_isJust 90 = .ok (.iload_n 3, 1) := by decide +kernel
theorem dX9_isJust_91 : decode cX9_isJust 91 = .ok (.ireturn, 1) := by decide +kernel
theorem dX9_asked_0 : decode cX9_asked 0 = .ok (.aload_n 0, 1) := by decide +kernel
theorem dX9_asked_1 : decode cX9_asked 1 = .ok (.iconst 0, 1) := by decide +kernel
theorem dX9_asked_2 : decode cX9_asked 2 = .ok (.putfield 59, 3) := by decide +kernel
theorem dX9_asked_5 : decode cX9_asked 5 = .ok (.aload_n 0, 1) := by decide +kernel
theorem dX9_asked_6 : decode cX9_asked 6 = .ok (.iload_n 1, 1) := by decide +kernel
theorem dX9_asked_7 : decode cX9_asked 7 = .ok (.invokevirtual 212, 3) := by decide +kernel
theorem dX9_asked_10 : decode cX9_asked 10 = .ok (.ifCond .eq 60, 3) := by decide +kernel
theorem dX9_asked_13 : decode cX9_asked 13 = .ok (.iload_n 2, 1) := by decide +kernel
theorem dX9_asked_14 : decode cX9_asked 14 = .ok (.invokestatic 73, 3) := by decide +kernel
theorem dX9_asked_17 : decode cX9_asked 17 = .ok (.ifCond .eq 53, 3) := by decide +kernel
theorem dX9_asked_20 : decode cX9_asked 20 = .ok (.iload_n 3, 1) := by decide +kernel
theorem dX9_asked_21 : decode cX9_asked 21 = .ok (.i2l, 1) := by decide +kernel
theorem dX9_asked_22 : decode cX9_asked 22 = .ok (.lconst 1, 1) := by decide +kernel
theorem dX9_asked_23 : decode cX9_asked 23 = .ok (.ldc2_w 249, 3) := by decide +kernel
theorem dX9_asked_26 : decode cX9_asked 26 = .ok (.invokestatic 69, 3) := by decide +kernel
theorem dX9_asked_29 : decode cX9_asked 29 = .ok (.ifCond .eq 41, 3) := by decide +kernel
theorem dX9_asked_32 : decode cX9_asked 32 = .ok (.iload 4, 2) := by decide +kernel
theorem dX9_asked_34 : decode cX9_asked 34 = .ok (.i2l, 1) := by decide +kernel
theorem dX9_asked_35 : decode cX9_asked 35 = .ok (.lconst 0, 1) := by decide +kernel
theorem dX9_asked_36 : decode cX9_asked 36 = .ok (.iload_n 3, 1) := by decide +kernel
theorem dX9_asked_37 : decode cX9_asked 37 = .ok (.iconst 1, 1) := by decide +kernel
theorem dX9_asked_38 : decode cX9_asked 38 = .ok (.isub, 1) := by decide +kernel
theorem dX9_asked_39 : decode cX9_asked 39 = .ok (.i2l, 1) := by decide +kernel
theorem dX9_asked_40 : decode cX9_asked 40 = .ok (.invokestatic 69, 3) := by decide +kernel
theorem dX9_asked_43 : decode cX9_asked 43 = .ok (.ifCond .eq 27, 3) := by decide +kernel
theorem dX9_asked_46 : decode cX9_asked 46 = .ok (.iload 5, 2) := by decide +kernel
theorem dX9_asked_48 : decode cX9_asked 48 = .ok (.i2l, 1) := by decide +kernel
theorem dX9_asked_49 : decode cX9_asked 49 = .ok (.lconst 0, 1) := by decide +kernel
theorem dX9_asked_50 : decode cX9_asked 50 = .ok (.ldc2_w 251, 3) := by decide +kernel
theorem dX9_asked_53 : decode cX9_asked 53 = .ok (.invokestatic 69, 3) := by decide +kernel
theorem dX9_asked_56 : decode cX9_asked 56 = .ok (.ifCond .eq 14, 3) := by decide +kernel
theorem dX9_asked_59 : decode cX9_asked 59 = .ok (.iload 6, 2) := by decide +kernel
theorem dX9_asked_61 : decode cX9_asked 61 = .ok (.i2l, 1) := by decide +kernel
theorem dX9_asked_62 : decode cX9_asked 62 = .ok (.lconst 0, 1) := by decide +kernel
theorem dX9_asked_63 : decode cX9_asked 63 = .ok (.lconst 1, 1) := by decide +kernel
theorem dX9_asked_64 : decode cX9_asked 64 = .ok (.invokestatic 69, 3) := by decide +kernel
theorem dX9_asked_67 : decode cX9_asked 67 = .ok (.ifCond .ne 6, 3) := by decide +kernel
theorem dX9_asked_70 : decode cX9_asked 70 = .ok (.ldc 79, 2) := by decide +kernel
theorem dX9_asked_72 : decode cX9_asked 72 = .ok (.ireturn, 1) := by decide +kernel
theorem dX9_asked_73 : decode cX9_asked 73 = .ok (.aload_n 0, 1) := by decide +kernel
theorem dX9_asked_74 : decode cX9_asked 74 = .ok (.getfield 7, 3) := by decide +kernel
theorem dX9_asked_77 : decode cX9_asked 77 = .ok (.iload_n 2, 1) := by decide +kernel
theorem dX9_asked_78 : decode cX9_asked 78 = .ok (.iaload, 1) := by decide +kernel
theorem dX9_asked_79 : decode cX9_asked 79 = .ok (.ifCond .ge 9, 3) := by decide +kernel
theorem dX9_asked_82 : decode cX9_asked 82 = .ok (.aload_n 0, 1) := by decide +kernel
theorem dX9_asked_83 : decode cX9_asked 83 = .ok (.iconst 1, 1) := by decide +kernel
theorem dX9_asked_84 : decode cX9_asked 84 = .ok (.invokevirtual 80, 3) := by decide +kernel
theorem dX9_asked_87 : decode cX9_asked 87 = .ok (.ireturn, 1) := by decide +kernel
theorem dX9_asked_88 : decode cX9_asked 88 = .ok (.iload_n 3, 1) := by decide +kernel
theorem dX9_asked_89 : decode cX9_asked 89 = .ok (.aload_n 0, 1) := by decide +kernel
theorem dX9_asked_90 : decode cX9_asked 90 = .ok (.getfield 13, 3) := by decide +kernel
theorem dX9_asked_93 : decode cX9_asked 93 = .ok (.iload_n 2, 1) := by decide +kernel
theorem dX9_asked_94 : decode cX9_asked 94 = .ok (.iaload, 1) := by decide +kernel
theorem dX9_asked_95 : decode cX9_asked 95 = .ok (.if_icmp .le 9, 3) := by decide +kernel
theorem dX9_asked_98 : decode cX9_asked 98 = .ok (.aload_n 0, 1) := by decide +kernel
theorem dX9_asked_99 : decode cX9_asked 99 = .ok (.iconst 2, 1) := by decide +kernel
theorem dX9_asked_100 : decode cX9_asked 100 = .ok (.invokevirtual 80, 3) := by decide +kernel
theorem dX9_asked_103 : decode cX9_asked 103 = .ok (.ireturn, 1) := by decide +kernel
theorem dX9_asked_104 : decode cX9_asked 104 = .ok (.iconst 0, 1) := by decide +kernel
theorem dX9_asked_105 : decode cX9_asked 105 = .ok (.istore 7, 2) := by decide +kernel
theorem dX9_asked_107 : decode cX9_asked 107 = .ok (.iload 7, 2) := by decide +kernel
theorem dX9_asked_109 : decode cX9_asked 109 = .ok (.iload_n 3, 1) := by decide +kernel
theorem dX9_asked_110 : decode cX9_asked 110 = .ok (.if_icmp .ge 65, 3) := by decide +kernel
theorem dX9_asked_113 : decode cX9_asked 113 = .ok (.aload_n 0, 1) := by decide +kernel
theorem dX9_asked_114 : decode cX9_asked 114 = .ok (.aload_n 0, 1) := by decide +kernel
theorem dX9_asked_115 : decode cX9_asked 115 = .ok (.getfield 16, 3) := by decide +kernel
theorem dX9_asked_118 : decode cX9_asked 118 = .ok (.bipush 40, 2) := by decide +kernel
theorem dX9_asked_120 : decode cX9_asked 120 = .ok (.iload_n 2, 1) := by decide +kernel
theorem dX9_asked_121 : decode cX9_asked 121 = .ok (.imul, 1) := by decide +kernel
theorem dX9_asked_122 : decode cX9_asked 122 = .ok (.iload 7, 2) := by decide +kernel
theorem dX9_asked_124 : decode cX9_asked 124 = .ok (.iadd, 1) := by decide +kernel
theorem dX9_asked_125 : decode cX9_asked 125 = .ok (.iaload, 1) := by decide +kernel
theorem dX9_asked_126 : decode cX9_asked 126 = .ok (.invokevirtual 182, 3) := by decide +kernel
theorem dX9_asked_129 : decode cX9_asked 129 = .ok (.ifCond .eq 37, 3) := by decide +kernel
theorem dX9_asked_132 : decode cX9_asked 132 = .ok (.iload 7, 2) := by decide +kernel
theorem dX9_asked_134 : decode cX9_asked 134 = .ok (.ifCond .le 35, 3) := by decide +kernel
theorem dX9_asked_137 : decode cX9_asked 137 = .ok (.aload_n 0, 1) := by decide +kernel
theorem dX9_asked_138 : decode cX9_asked 138 = .ok (.getfield 16, 3) := by decide +kernel
theorem dX9_asked_141 : decode cX9_asked 141 = .ok (.bipush 40, 2) := by decide +kernel
theorem dX9_asked_143 : decode cX9_asked 143 = .ok (.iload_n 2, 1) := by decide +kernel
theorem dX9_asked_144 : decode cX9_asked 144 = .ok (.imul, 1) := by decide +kernel
theorem dX9_asked_145 : decode cX9_asked 145 = .ok (.iload 7, 2) := by decide +kernel
theorem dX9_asked_147 : decode cX9_asked 147 = .ok (.iadd, 1) := by decide +kernel
theorem dX9_asked_148 : decode cX9_asked 148 = .ok (.iaload, 1) := by decide +kernel
theorem dX9_asked_149 : decode cX9_asked 149 = .ok (.aload_n 0, 1) := by decide +kernel
theorem dX9_asked_150 : decode cX9_asked 150 = .ok (.getfield 16, 3) := by decide +kernel
theorem dX9_asked_153 : decode cX9_asked 153 = .ok (.bipush 40, 2) := by decide +kernel
theorem dX9_asked_155 : decode cX9_asked 155 = .ok (.iload_n 2, 1) := by decide +kernel
theorem dX9_asked_156 : decode cX9_asked 156 = .ok (.imul, 1) := by decide +kernel
theorem dX9_asked_157 : decode cX9_asked 157 = .ok (.iload 7, 2) := by decide +kernel
theorem dX9_asked_159 : decode cX9_asked 159 = .ok (.iadd, 1) := by decide +kernel
theorem dX9_asked_160 : decode cX9_asked 160 = .ok (.iconst 1, 1) := by decide +kernel
theorem dX9_asked_161 : decode cX9_asked 161 = .ok (.isub, 1) := by decide +kernel
theorem dX9_asked_162 : decode cX9_asked 162 = .ok (.iaload, 1) := by decide +kernel
theorem dX9_asked_163 : decode cX9_asked 163 = .ok (.if_icmp .gt 6, 3) := by decide +kernel
theorem dX9_asked_166 : decode cX9_asked 166 = .ok (.ldc 79, 2) := by decide +kernel
theorem dX9_asked_168 : decode cX9_asked 168 = .ok (.ireturn, 1) := by decide +kernel
theorem dX9_asked_169 : decode cX9_asked 169 = .ok (.iinc 7 1, 3) := by decide +kernel
theorem dX9_asked_172 : decode cX9_asked 172 = .ok (.goto (-65), 3) := by decide +kernel
theorem dX9_asked_175 : decode cX9_asked 175 = .ok (.aload_n 0, 1) := by decide +kernel
theorem dX9_asked_176 : decode cX9_asked 176 = .ok (.iconst 0, 1) := by decide +kernel
theorem dX9_asked_177 : decode cX9_asked 177 = .ok (.putfield 63, 3) := by decide +kernel
theorem dX9_asked_180 : decode cX9_asked 180 = .ok (.aload_n 0, 1) := by decide +kernel
theorem dX9_asked_181 : decode cX9_asked 181 = .ok (.invokevirtual 215, 3) := by decide +kernel
theorem dX9_asked_184 : decode cX9_asked 184 = .ok (.iconst 0, 1) := by decide +kernel
theorem dX9_asked_185 : decode cX9_asked 185 = .ok (.istore 7, 2) := by decide +kernel
theorem dX9_asked_187 : decode cX9_asked 187 = .ok (.ldc 95, 2) := by decide +kernel
theorem dX9_asked_189 : decode cX9_asked 189 = .ok (.istore 8, 2) := by decide +kernel
theorem dX9_asked_191 : decode cX9_asked 191 = .ok (.bipush 20, 2) := by decide +kernel
theorem dX9_asked_193 : decode cX9_asked 193 = .ok (.istore 9, 2) := by decide +kernel
theorem dX9_asked_195 : decode cX9_asked 195 = .ok (.iload 9, 2) := by decide +kernel
theorem dX9_asked_197 : decode cX9_asked 197 = .ok (.ifCond .lt 70, 3) := by decide +kernel
theorem dX9_asked_200 : decode cX9_asked 200 = .ok (.aload_n 0, 1) := by decide +kernel
theorem dX9_asked_201 : decode cX9_asked 201 = .ok (.getfield 34, 3) := by decide +kernel
theorem dX9_asked_204 : decode cX9_asked 204 = .ok (.aload_n 0, 1) := by decide +kernel
theorem dX9_asked_205 : decode cX9_asked 205 = .ok (.getfield 16, 3) := by decide +kernel
theorem dX9_asked_208 : decode cX9_asked 208 = .ok (.bipush 40, 2) := by decide +kernel
theorem dX9_asked_210 : decode cX9_asked 210 = .ok (.iload_n 2, 1) := by decide +kernel
theorem dX9_asked_211 : decode cX9_asked 211 = .ok (.imul, 1) := by decide +kernel
theorem dX9_asked_212 : decode cX9_asked 212 = .ok (.iload 4, 2) := by decide +kernel
theorem dX9_asked_214 : decode cX9_asked 214 = .ok (.iadd, 1) := by decide +kernel
theorem dX9_asked_215 : decode cX9_asked 215 = .ok (.iaload, 1) := by decide +kernel
theorem dX9_asked_216 : decode cX9_asked 216 = .ok (.iload 9, 2) := by decide +kernel
theorem dX9_asked_218 : decode cX9_asked 218 = .ok (.iastore, 1) := by decide +kernel
theorem dX9_asked_219 : decode cX9_asked 219 = .ok (.aload_n 0, 1) := by decide +kernel
theorem dX9_asked_220 : decode cX9_asked 220 = .ok (.iload_n 1, 1) := by decide +kernel
theorem dX9_asked_221 : decode cX9_asked 221 = .ok (.invokevirtual 218, 3) := by decide +kernel
theorem dX9_asked_224 : decode cX9_asked 224 = .ok (.aload_n 0, 1) := by decide +kernel
theorem dX9_asked_225 : decode cX9_asked 225 = .ok (.bipush 40, 2) := by decide +kernel
theorem dX9_asked_227 : decode cX9_asked 227 = .ok (.iload_n 2, 1) := by decide +kernel
theorem dX9_asked_228 : decode cX9_asked 228 = .ok (.imul, 1) := by decide +kernel
theorem dX9_asked_229 : decode cX9_asked 229 = .ok (.iload_n 3, 1) := by decide +kernel
theorem dX9_asked_230 : decode cX9_asked 230 = .ok (.invokevirtual 253, 3) := by decide +kernel
theorem dX9_asked_233 : decode cX9_asked 233 = .ok (.ifCond .eq 28, 3) := by decide +kernel
theorem dX9_asked_236 : decode cX9_asked 236 = .ok (.aload_n 0, 1) := by decide +kernel
theorem dX9_asked_237 : decode cX9_asked 237 = .ok (.iload_n 1, 1) := by decide +kernel
theorem dX9_asked_238 : decode cX9_asked 238 = .ok (.invokevirtual 221, 3) := by decide +kernel
theorem dX9_asked_241 : decode cX9_asked 241 = .ok (.ifCond .eq 20, 3) := by decide +kernel
theorem dX9_asked_244 : decode cX9_asked 244 = .ok (.aload_n 0, 1) := by decide +kernel
theorem dX9_asked_245 : decode cX9_asked 245 = .ok (.iload_n 1, 1) := by decide +kernel
theorem dX9_asked_246 : decode cX9_asked 246 = .ok (.invokevirtual 209, 3) := by decide +kernel
theorem dX9_asked_249 : decode cX9_asked 249 = .ok (.iload 5, 2) := by decide +kernel
theorem dX9_asked_251 : decode cX9_asked 251 = .ok (.if_icmp .ne 10, 3) := by decide +kernel
theorem dX9_asked_254 : decode cX9_asked 254 = .ok (.iinc 7 1, 3) := by decide +kernel
theorem dX9_asked_257 : decode cX9_asked 257 = .ok (.iload 9, 2) := by decide +kernel
theorem dX9_asked_259 : decode cX9_asked 259 = .ok (.istore 8, 2) := by decide +kernel
theorem dX9_asked_261 : decode cX9_asked 261 = .ok (.iinc 9 (-1), 3) := by decide +kernel
theorem dX9_asked_264 : decode cX9_asked 264 = .ok (.goto (-69), 3) := by decide +kernel
theorem dX9_asked_267 : decode cX9_asked 267 = .ok (.iload 6, 2) := by decide +kernel
theorem dX9_asked_269 : decode cX9_asked 269 = .ok (.ifCond .ne 8, 3) := by decide +kernel
theorem dX9_asked_272 : decode cX9_asked 272 = .ok (.iload 7, 2) := by decide +kernel
theorem dX9_asked_274 : decode cX9_asked 274 = .ok (.goto 5, 3) := by decide +kernel
theorem dX9_asked_277 : decode cX9_asked 277 = .ok (.iload 8, 2) := by decide +kernel
theorem dX9_asked_279 : decode cX9_asked 279 = .ok (.ireturn, 1) := by decide +kernel
theorem dX9_deal_0 : decode cX9_deal 0 = .ok (.aload_n 0, 1) := by decide +kernel
theorem dX9_deal_1 : decode cX9_deal 1 = .ok (.iconst 0, 1) := by decide +kernel
theorem dX9_deal_2 : decode cX9_deal 2 = .ok (.putfield 59, 3) := by decide +kernel
theorem dX9_deal_5 : decode cX9_deal 5 = .ok (.aload_n 0, 1) := by decide +kernel
theorem dX9_deal_6 : decode cX9_deal 6 = .ok (.iload_n 1, 1) := by decide +kernel
theorem dX9_deal_7 : decode cX9_deal 7 = .ok (.invokevirtual 182, 3) := by decide +kernel
theorem dX9_deal_10 : decode cX9_deal 10 = .ok (.ifCond .eq 34, 3) := by decide +kernel
theorem dX9_deal_13 : decode cX9_deal 13 = .ok (.iload_n 2, 1) := by decide +kernel
theorem dX9_deal_14 : decode cX9_deal 14 = .ok (.invokestatic 191, 3) := by decide +kernel
theorem dX9_deal_17 : decode cX9_deal 17 = .ok (.ifCond .eq 27, 3) := by decide +kernel
theorem dX9_deal_20 : decode cX9_deal 20 = .ok (.aload_n 0, 1) := by decide +kernel
theorem dX9_deal_21 : decode cX9_deal 21 = .ok (.getfield 19, 3) := by decide +kernel
theorem dX9_deal_24 : decode cX9_deal 24 = .ok (.iconst 2, 1) := by decide +kernel
theorem dX9_deal_25 : decode cX9_deal 25 = .ok (.iconst 3, 1) := by decide +kernel
theorem dX9_deal_26 : decode cX9_deal 26 = .ok (.iload_n 1, 1) := by decide +kernel
theorem dX9_deal_27 : decode cX9_deal 27 = .ok (.imul, 1) := by decide +kernel
theorem dX9_deal_28 : decode cX9_deal 28 = .ok (.iadd, 1) := by decide +kernel
theorem dX9_deal_29 : decode cX9_deal 29 = .ok (.iaload, 1) := by decide +kernel
theorem dX9_deal_30 : decode cX9_deal 30 = .ok (.iload_n 2, 1) := by decide +kernel
theorem dX9_deal_31 : decode cX9_deal 31 = .ok (.if_icmp .eq 13, 3) := by decide +kernel
theorem dX9_deal_34 : decode cX9_deal 34 = .ok (.iload_n 3, 1) := by decide +kernel
theorem dX9_deal_35 : decode cX9_deal 35 = .ok (.i2l, 1) := by decide +kernel
theorem dX9_deal_36 : decode cX9_deal 36 = .ok (.lconst 0, 1) := by decide +kernel
theorem dX9_deal_37 : decode cX9_deal 37 = .ok (.lconst 1, 1) := by decide +kernel
theorem dX9_deal_38 : decode cX9_deal 38 = .ok (.invokestatic 69, 3) := by decide +kernel
theorem dX9_deal_41 : decode cX9_deal 41 = .ok (.ifCond .ne 6, 3) := by decide +kernel
theorem dX9_deal_44 : decode cX9_deal 44 = .ok (.ldc 79, 2) := by decide +kernel
theorem dX9_deal_46 : decode cX9_deal 46 = .ok (.ireturn, 1) := by decide +kernel
theorem dX9_deal_47 : decode cX9_deal 47 = .ok (.aload_n 0, 1) := by decide +kernel
theorem dX9_deal_48 : decode cX9_deal 48 = .ok (.invokevirtual 215, 3) := by decide +kernel
theorem dX9_deal_51 : decode cX9_deal 51 = .ok (.iload_n 3, 1) := by decide +kernel
theorem dX9_deal_52 : decode cX9_deal 52 = .ok (.ifCond .ne 13, 3) := by decide +kernel
theorem dX9_deal_55 : decode cX9_deal 55 = .ok (.aload_n 0, 1) := by decide +kernel
theorem dX9_deal_56 : decode cX9_deal 56 = .ok (.iconst 1, 1) := by decide +kernel
theorem dX9_deal_57 : decode cX9_deal 57 = .ok (.iload_n 2, 1) := by decide +kernel
theorem dX9_deal_58 : decode cX9_deal 58 = .ok (.ishl, 1) := by decide +kernel
theorem dX9_deal_59 : decode cX9_deal 59 = .ok (.invokevirtual 224, 3) := by decide +kernel
theorem dX9_deal_62 : decode cX9_deal 62 = .ok (.goto 10, 3) := by decide +kernel
theorem dX9_deal_65 : decode cX9_deal 65 = .ok (.aload_n 0, 1) := by decide +kernel
theorem dX9_deal_66 : decode cX9_deal 66 = .ok (.iconst 1, 1) := by decide +kernel
theorem dX9_deal_67 : decode cX9_deal 67 = .ok (.iload_n 2, 1) := by decide +kernel
theorem dX9_deal_68 : decode cX9_deal 68 = .ok (.ishl, 1) := by decide +kernel
theorem dX9_deal_69 : decode cX9_deal 69 = .ok (.invokevirtual 246, 3) := by decide +kernel
theorem dX9_deal_72 : decode cX9_deal 72 = .ok (.istore 4, 2) := by decide +kernel
theorem dX9_deal_74 : decode cX9_deal 74 = .ok (.aload_n 0, 1) := by decide +kernel
theorem dX9_deal_75 : decode cX9_deal 75 = .ok (.getfield 31, 3) := by decide +kernel
theorem dX9_deal_78 : decode cX9_deal 78 = .ok (.iload_n 1, 1) := by decide +kernel
theorem dX9_deal_79 : decode cX9_deal 79 = .ok (.iload_n 2, 1) := by decide +kernel
theorem dX9_deal_80 : decode cX9_deal 80 = .ok (.iastore, 1) := by decide +kernel
theorem dX9_deal_81 : decode cX9_deal 81 = .ok (.iload_n 3, 1) := by decide +kernel
theorem dX9_deal_82 : decode cX9_deal 82 = .ok (.ifCond .ne 13, 3) := by decide +kernel
theorem dX9_deal_85 : decode cX9_deal 85 = .ok (.aload_n 0, 1) := by decide +kernel
theorem dX9_deal_86 : decode cX9_deal 86 = .ok (.iconst 1, 1) := by decide +kernel
theorem dX9_deal_87 : decode cX9_deal 87 = .ok (.iload_n 2, 1) := by decide +kernel
theorem dX9_deal_88 : decode cX9_deal 88 = .ok (.ishl, 1) := by decide +kernel
theorem dX9_deal_89 : decode cX9_deal 89 = .ok (.invokevirtual 224, 3) := by decide +kernel
theorem dX9_deal_92 : decode cX9_deal 92 = .ok (.goto 10, 3) := by decide +kernel
theorem dX9_deal_95 : decode cX9_deal 95 = .ok (.aload_n 0, 1) := by decide +kernel
theorem dX9_deal_96 : decode cX9_deal 96 = .ok (.iconst 1, 1) := by decide +kernel
theorem dX9_deal_97 : decode cX9_deal 97 = .ok (.iload_n 2, 1) := by decide +kernel
theorem dX9_deal_98 : decode cX9_deal 98 = .ok (.ishl, 1) := by decide +kernel
theorem dX9_deal_99 : decode cX9_deal 99 = .ok (.invokevirtual 246, 3) := by decide +kernel
theorem dX9_deal_102 : decode cX9_deal 102 = .ok (.iload 4, 2) := by decide +kernel
theorem dX9_deal_104 : decode cX9_deal 104 = .ok (.isub, 1) := by decide +kernel
theorem dX9_deal_105 : decode cX9_deal 105 = .ok (.ireturn, 1) := by decide +kernel
theorem dX9_image_0 : decode cX9_image 0 = .ok (.aload_n 0, 1) := by decide +kernel
theorem dX9_image_1 : decode cX9_image 1 = .ok (.iconst 0, 1) := by decide +kernel
theorem dX9_image_2 : decode cX9_image 2 = .ok (.putfield 59, 3) := by decide +kernel
theorem dX9_image_5 : decode cX9_image 5 = .ok (.iload_n 1, 1) := by decide +kernel
theorem dX9_image_6 : decode cX9_image 6 = .ok (.i2l, 1) := by decide +kernel
theorem dX9_image_7 : decode cX9_image 7 = .ok (.lconst 0, 1) := by decide +kernel
theorem dX9_image_8 : decode cX9_image 8 = .ok (.lconst 1, 1) := by decide +kernel
theorem dX9_image_9 : decode cX9_image 9 = .ok (.invokestatic 69, 3) := by decide +kernel
theorem dX9_image_12 : decode cX9_image 12 = .ok (.ifCond .ne 6, 3) := by decide +kernel
theorem dX9_image_15 : decode cX9_image 15 = .ok (.ldc 79, 2) := by decide +kernel
theorem dX9_image_17 : decode cX9_image 17 = .ok (.ireturn, 1) := by decide +kernel
theorem dX9_image_18 : decode cX9_image 18 = .ok (.aload_n 0, 1) := by decide +kernel
theorem dX9_image_19 : decode cX9_image 19 = .ok (.getfield 170, 3) := by decide +kernel
theorem dX9_image_22 : decode cX9_image 22 = .ok (.ifCond .ne 6, 3) := by decide +kernel
theorem dX9_image_25 : decode cX9_image 25 = .ok (.ldc 194, 2) := by decide +kernel
theorem dX9_image_27 : decode cX9_image 27 = .ok (.ireturn, 1) := by decide +kernel
theorem dX9_image_28 : decode cX9_image 28 = .ok (.iconst 0, 1) := by decide +kernel
theorem dX9_image_29 : decode cX9_image 29 = .ok (.istore_n 2, 1) := by decide +kernel
theorem dX9_image_30 : decode cX9_image 30 = .ok (.iload_n 2, 1) := by decide +kernel
theorem dX9_image_31 : decode cX9_image 31 = .ok (.bipush 80, 2) := by decide +kernel
theorem dX9_image_33 : decode cX9_image 33 = .ok (.if_icmp .ge 26, 3) := by decide +kernel
theorem dX9_image_36 : decode cX9_image 36 = .ok (.aload_n 0, 1) := by decide +kernel
theorem dX9_image_37 : decode cX9_image 37 = .ok (.getfield 53, 3) := by decide +kernel
theorem dX9_image_40 : decode cX9_image 40 = .ok (.bipush 80, 2) := by decide +kernel
theorem dX9_image_42 : decode cX9_image 42 = .ok (.iload_n 1, 1) := by decide +kernel
theorem dX9_image_43 : decode cX9_image 43 = .ok (.imul, 1) := by decide +kernel
theorem dX9_image_44 : decode cX9_image 44 = .ok (.iload_n 2, 1) := by decide +kernel
theorem dX9_image_45 : decode cX9_image 45 = .ok (.iadd, 1) := by decide +kernel
theorem dX9_image_46 : decode cX9_image 46 = .ok (.aload_n 0, 1) := by decide +kernel
theorem dX9_image_47 : decode cX9_image 47 = .ok (.getfield 19, 3) := by decide +kernel
theorem dX9_image_50 : decode cX9_image 50 = .ok (.iload_n 2, 1) := by decide +kernel
theorem dX9_image_51 : decode cX9_image 51 = .ok (.iaload, 1) := by decide +kernel
theorem dX9_image_52 : decode cX9_image 52 = .ok (.iastore, 1) := by decide +kernel
theorem dX9_image_53 : decode cX9_image 53 = .ok (.iinc 2 1, 3) := by decide +kernel
theorem dX9_image_56 : decode cX9_image 56 = .ok (.goto (-26), 3) := by decide +kernel
theorem dX9_image_59 : decode cX9_image 59 = .ok (.aload_n 0, 1) := by decide +kernel
theorem dX9_image_60 : decode cX9_image 60 = .ok (.getfield 49, 3) := by decide +kernel
theorem dX9_image_63 : decode cX9_image 63 = .ok (.iload_n 1, 1) := by decide +kernel
theorem dX9_image_64 : decode cX9_image 64 = .ok (.iconst 1, 1) := by decide +kernel
theorem dX9_image_65 : decode cX9_image 65 = .ok (.bastore, 1) := by decide +kernel
theorem dX9_image_66 : decode cX9_image 66 = .ok (.iconst 1, 1) := by decide +kernel
theorem dX9_image_67 : decode cX9_image 67 = .ok (.ireturn, 1) := by decide +kernel
theorem dX9_restore_0 : decode cX9_restore 0 = .ok (.aload_n 0, 1) := by decide +kernel
theorem dX9_restore_1 : decode cX9_restore 1 = .ok (.iconst 0, 1) := by decide +kernel
theorem dX9_restore_2 : decode cX9_restore 2 = .ok (.putfield 59, 3) := by decide +kernel
theorem dX9_restore_5 : decode cX9_restore 5 = .ok (.iload_n 1, 1) := by decide +kernel
theorem dX9_restore_6 : decode cX9_restore 6 = .ok (.i2l, 1) := by decide +kernel
theorem dX9_restore_7 : decode cX9_restore 7 = .ok (.lconst 0, 1) := by decide +kernel
theorem dX9_restore_8 : decode cX9_restore 8 = .ok (.lconst 1, 1) := by decide +kernel
theorem dX9_restore_9 : decode cX9_restore 9 = .ok (.invokestatic 69, 3) := by decide +kernel
theorem dX9_restore_12 : decode cX9_restore 12 = .ok (.ifCond .ne 6, 3) := by decide +kernel
theorem dX9_restore_15 : decode cX9_restore 15 = .ok (.ldc 79, 2) := by decide +kernel
theorem dX9_restore_17 : decode cX9_restore 17 = .ok (.ireturn, 1) := by decide +kernel
theorem dX9_restore_18 : decode cX9_restore 18 = .ok (.aload_n 0, 1) := by decide +kernel
theorem dX9_restore_19 : decode cX9_restore 19 = .ok (.getfield 49, 3) := by decide +kernel
theorem dX9_restore_22 : decode cX9_restore 22 = .ok (.iload_n 1, 1) := by decide +kernel
theorem dX9_restore_23 : decode cX9_restore 23 = .ok (.baload, 1) := by decide +kernel
theorem dX9_restore_24 : decode cX9_restore 24 = .ok (.ifCond .ne 6, 3) := by decide +kernel
theorem dX9_restore_27 : decode cX9_restore 27 = .ok (.ldc 194, 2) := by decide +kernel
theorem dX9_restore_29 : decode cX9_restore 29 = .ok (.ireturn, 1) := by decide +kernel
theorem dX9_restore_30 : decode cX9_restore 30 = .ok (.iconst 0, 1) := by decide +kernel
theorem dX9_restore_31 : decode cX9_restore 31 = .ok (.istore_n 2, 1) := by decide +kernel
theorem dX9_restore_32 : decode cX9_restore 32 = .ok (.iload_n 2, 1) := by decide +kernel
theorem dX9_restore_33 : decode cX9_restore 33 = .ok (.bipush 80, 2) := by decide +kernel
theorem dX9_restore_35 : decode cX9_restore 35 = .ok (.if_icmp .ge 26, 3) := by decide +kernel
theorem dX9_restore_38 : decode cX9_restore 38 = .ok (.aload_n 0, 1) := by decide +kernel
theorem dX9_restore_39 : decode cX9_restore 39 = .ok (.getfield 19, 3) := by decide +kernel
theorem dX9_restore_42 : decode cX9_restore 42 = .ok (.iload_n 2, 1) := by decide +kernel
theorem dX9_restore_43 : decode cX9_restore 43 = .ok (.aload_n 0, 1) := by decide +kernel
theorem dX9_restore_44 : decode cX9_restore 44 = .ok (.getfield 53, 3) := by decide +kernel
theorem dX9_restore_47 : decode cX9_restore 47 = .ok (.bipush 80, 2) := by decide +kernel
theorem dX9_restore_49 : decode cX9_restore 49 = .ok (.iload_n 1, 1) := by decide +kernel
theorem dX9_restore_50 : decode cX9_restore 50 = .ok (.imul, 1) := by decide +kernel
theorem dX9_restore_51 : decode cX9_restore 51 = .ok (.iload_n 2, 1) := by decide +kernel
theorem dX9_restore_52 : decode cX9_restore 52 = .ok (.iadd, 1) := by decide +kernel
theorem dX9_restore_53 : decode cX9_restore 53 = .ok (.iaload, 1) := by decide +kernel
theorem dX9_restore_54 : decode cX9_restore 54 = .ok (.iastore, 1) := by decide +kernel
theorem dX9_restore_55 : decode cX9_restore 55 = .ok (.iinc 2 1, 3) := by decide +kernel
theorem dX9_restore_58 : decode cX9_restore 58 = .ok (.goto (-26), 3) := by decide +kernel
theorem dX9_restore_61 : decode cX9_restore 61 = .ok (.aload_n 0, 1) := by decide +kernel
theorem dX9_restore_62 : decode cX9_restore 62 = .ok (.iconst 0, 1) := by decide +kernel
theorem dX9_restore_63 : decode cX9_restore 63 = .ok (.putfield 174, 3) := by decide +kernel
theorem dX9_restore_66 : decode cX9_restore 66 = .ok (.iconst 1, 1) := by decide +kernel
theorem dX9_restore_67 : decode cX9_restore 67 = .ok (.ireturn, 1) := by decide +kernel
theorem dX9_kindOf_0 : decode cX9_kindOf 0 = .ok (.aload_n 0, 1) := by decide +kernel
theorem dX9_kindOf_1 : decode cX9_kindOf 1 = .ok (.getfield 19, 3) := by decide +kernel
theorem dX9_kindOf_4 : decode cX9_kindOf 4 = .ok (.iconst 2, 1) := by decide +kernel
theorem dX9_kindOf_5 : decode cX9_kindOf 5 = .ok (.iconst 3, 1) := by decide +kernel
theorem dX9_kindOf_6 : decode cX9_kindOf 6 = .ok (.iload_n 1, 1) := by decide +kernel
theorem dX9_kindOf_7 : decode cX9_kindOf 7 = .ok (.imul, 1) := by decide +kernel
theorem dX9_kindOf_8 : decode cX9_kindOf 8 = .ok (.iadd, 1) := by decide +kernel
theorem dX9_kindOf_9 : decode cX9_kindOf 9 = .ok (.iconst 1, 1) := by decide +kernel
theorem dX9_kindOf_10 : decode cX9_kindOf 10 = .ok (.iadd, 1) := by decide +kernel
theorem dX9_kindOf_11 : decode cX9_kindOf 11 = .ok (.iaload, 1) := by decide +kernel
theorem dX9_kindOf_12 : decode cX9_kindOf 12 = .ok (.istore_n 2, 1) := by decide +kernel
theorem dX9_kindOf_13 : decode cX9_kindOf 13 = .ok (.aload_n 0, 1) := by decide +kernel
theorem dX9_kindOf_14 : decode cX9_kindOf 14 = .ok (.iload_n 1, 1) := by decide +kernel
theorem dX9_kindOf_15 : decode cX9_kindOf 15 = .ok (.invokevirtual 196, 3) := by decide +kernel
theorem dX9_kindOf_18 : decode cX9_kindOf 18 = .ok (.ifCond .eq 5, 3) := by decide +kernel
theorem dX9_kindOf_21 : decode cX9_kindOf 21 = .ok (.iconst 5, 1) := by decide +kernel
theorem dX9_kindOf_22 : decode cX9_kindOf 22 = .ok (.ireturn, 1) := by decide +kernel
theorem dX9_kindOf_23 : decode cX9_kindOf 23 = .ok (.aload_n 0, 1) := by decide +kernel
theorem dX9_kindOf_24 : decode cX9_kindOf 24 = .ok (.iload_n 1, 1) := by decide +kernel
theorem dX9_kindOf_25 : decode cX9_kindOf 25 = .ok (.iconst 1, 1) := by decide +kernel
theorem dX9_kindOf_26 : decode cX9_kindOf 26 = .ok (.iadd, 1) := by decide +kernel
theorem dX9_kindOf_27 : decode cX9_kindOf 27 = .ok (.invokevirtual 182, 3) := by decide +kernel
theorem dX9_kindOf_30 : decode cX9_kindOf 30 = .ok (.ifCond .eq 32, 3) := by decide +kernel
theorem dX9_kindOf_33 : decode cX9_kindOf 33 = .ok (.aload_n 0, 1) := by decide +kernel
theorem dX9_kindOf_34 : decode cX9_kindOf 34 = .ok (.getfield 19, 3) := by decide +kernel
theorem dX9_kindOf_37 : decode cX9_kindOf 37 = .ok (.iconst 2, 1) := by decide +kernel
theorem dX9_kindOf_38 : decode cX9_kindOf 38 = .ok (.iconst 3, 1) := by decide +kernel
theorem dX9_kindOf_39 : decode cX9_kindOf 39 = .ok (.iload_n 1, 1) := by decide +kernel
theorem dX9_kindOf_40 : decode cX9_kindOf 40 = .ok (.imul, 1) := by decide +kernel
theorem dX9_kindOf_41 : decode cX9_kindOf 41 = .ok (.iadd, 1) := by decide +kernel
theorem dX9_kindOf_42 : decode cX9_kindOf 42 = .ok (.iconst 3, 1) := by decide +kernel
theorem dX9_kindOf_43 : decode cX9_kindOf 43 = .ok (.iadd, 1) := by decide +kernel
theorem dX9_kindOf_44 : decode cX9_kindOf 44 = .ok (.iaload, 1) := by decide +kernel
theorem dX9_kindOf_45 : decode cX9_kindOf 45 = .ok (.aload_n 0, 1) := by decide +kernel
theorem dX9_kindOf_46 : decode cX9_kindOf 46 = .ok (.getfield 19, 3) := by decide +kernel
theorem dX9_kindOf_49 : decode cX9_kindOf 49 = .ok (.iconst 2, 1) := by decide +kernel
theorem dX9_kindOf_50 : decode cX9_kindOf 50 = .ok (.iconst 3, 1) := by decide +kernel
theorem dX9_kindOf_51 : decode cX9_kindOf 51 = .ok (.iload_n 1, 1) := by decide +kernel
theorem dX9_kindOf_52 : decode cX9_kindOf 52 = .ok (.imul, 1) := by decide +kernel
theorem dX9_kindOf_53 : decode cX9_kindOf 53 = .ok (.iadd, 1) := by decide +kernel
theorem dX9_kindOf_54 : decode cX9_kindOf 54 = .ok (.iaload, 1) := by decide +kernel
theorem dX9_kindOf_55 : decode cX9_kindOf 55 = .ok (.if_icmp .ne 7, 3) := by decide +kernel
theorem dX9_kindOf_58 : decode cX9_kindOf 58 = .ok (.iconst 1, 1) := by decide +kernel
theorem dX9_kindOf_59 : decode cX9_kindOf 59 = .ok (.goto 4, 3) := by decide +kernel
theorem dX9_kindOf_62 : decode cX9_kindOf 62 = .ok (.iconst 0, 1) := by decide +kernel
theorem dX9_kindOf_63 : decode cX9_kindOf 63 = .ok (.istore_n 3, 1) := by decide +kernel
theorem dX9_kindOf_64 : decode cX9_kindOf 64 = .ok (.iload_n 2, 1) := by decide +kernel
theorem dX9_kindOf_65 : decode cX9_kindOf 65 = .ok (.ifCond .ne 7, 3) := by decide +kernel
theorem dX9_kindOf_68 : decode cX9_kindOf 68 = .ok (.iconst 4, 1) := by decide +kernel
theorem dX9_kindOf_69 : decode cX9_kindOf 69 = .ok (.goto 22, 3) := by decide +kernel
theorem dX9_kindOf_72 : decode cX9_kindOf 72 = .ok (.iload_n 2, 1) := by decide +kernel
theorem dX9_kindOf_73 : decode cX9_kindOf 73 = .ok (.bipush 9, 2) := by decide +kernel
theorem dX9_kindOf_75 : decode cX9_kindOf 75 = .ok (.if_icmp .le 7, 3) := by decide +kernel
theorem dX9_kindOf_78 : decode cX9_kindOf 78 = .ok (.iconst 2, 1) := by decide +kernel
theorem dX9_kindOf_79 : decode cX9_kindOf 79 = .ok (.goto 12, 3) := by decide +kernel
theorem dX9_kindOf_82 : decode cX9_kindOf 82 = .ok (.iload_n 3, 1) := by decide +kernel
theorem dX9_kindOf_83 : decode cX9_kindOf 83 = .ok (.ifCond .eq 7, 3) := by decide +kernel
theorem dX9_kindOf_86 : decode cX9_kindOf 86 = .ok (.iconst 3, 1) := by decide +kernel
theorem dX9_kindOf_87 : decode cX9_kindOf 87 = .ok (.goto 4, 3) := by decide +kernel
theorem dX9_kindOf_90 : decode cX9_kindOf 90 = .ok (.iconst 1, 1) := by decide +kernel
theorem dX9_kindOf_91 : decode cX9_kindOf 91 = .ok (.ireturn, 1) := by decide +kernel
theorem dX9_isOf_0 : decode cX9_isOf 0 = .ok (.iload_n 1, 1) := by decide +kernel
theorem dX9_isOf_1 : decode cX9_isOf 1 = .ok (.ifCond .eq 28, 3) := by decide +kernel
theorem dX9_isOf_4 : decode cX9_isOf 4 = .ok (.iload_n 0, 1) := by decide +kernel
theorem dX9_isOf_5 : decode cX9_isOf 5 = .ok (.iload_n 1, 1) := by decide +kernel
theorem dX9_isOf_6 : decode cX9_isOf 6 = .ok (.if_icmp .eq 23, 3) := by decide +kernel
theorem dX9_isOf_9 : decode cX9_isOf 9 = .ok (.iload_n 1, 1) := by decide +kernel
theorem dX9_isOf_10 : decode cX9_isOf 10 = .ok (.iconst 1, 1) := by decide +kernel
theorem dX9_isOf_11 : decode cX9_isOf 11 = .ok (.if_icmp .ne 8, 3) := by decide +kernel
theorem dX9_isOf_14 : decode cX9_isOf 14 = .ok (.iload_n 0, 1) := by decide +kernel
theorem dX9_isOf_15 : decode cX9_isOf 15 = .ok (.iconst 4, 1) := by decide +kernel
theorem dX9_isOf_16 : decode cX9_isOf 16 = .ok (.if_icmp .lt 13, 3) := by decide +kernel
theorem dX9_isOf_19 : decode cX9_isOf 19 = .ok (.iload_n 1, 1) := by decide +kernel
theorem dX9_isOf_20 : decode cX9_isOf 20 = .ok (.iconst 4, 1) := by decide +kernel
theorem dX9_isOf_21 : decode cX9_isOf 21 = .ok (.if_icmp .ne 12, 3) := by decide +kernel
theorem dX9_isOf_24 : decode cX9_isOf 24 = .ok (.iload_n 0, 1) := by decide +kernel
theorem dX9_isOf_25 : decode cX9_isOf 25 = .ok (.iconst 5, 1) := by decide +kernel
theorem dX9_isOf_26 : decode cX9_isOf 26 = .ok (.if_icmp .ne 7, 3) := by decide +kernel
theorem dX9_isOf_29 : decode cX9_isOf 29 = .ok (.iconst 1, 1) := by decide +kernel
theorem dX9_isOf_30 : decode cX9_isOf 30 = .ok (.goto 4, 3) := by decide +kernel
theorem dX9_isOf_33 : decode cX9_isOf 33 = .ok (.iconst 0, 1) := by decide +kernel
theorem dX9_isOf_34 : decode cX9_isOf 34 = .ok (.ireturn, 1) := by decide +kernel
theorem dX9_kind_0 : decode cX9_kind 0 = .ok (.aload_n 0, 1) := by decide +kernel
theorem dX9_kind_1 : decode cX9_kind 1 = .ok (.iconst 0, 1) := by decide +kernel
theorem dX9_kind_2 : decode cX9_kind 2 = .ok (.putfield 59, 3) := by decide +kernel
theorem dX9_kind_5 : decode cX9_kind 5 = .ok (.aload_n 0, 1) := by decide +kernel
theorem dX9_kind_6 : decode cX9_kind 6 = .ok (.iload_n 1, 1) := by decide +kernel
theorem dX9_kind_7 : decode cX9_kind 7 = .ok (.invokevirtual 182, 3) := by decide +kernel
theorem dX9_kind_10 : decode cX9_kind 10 = .ok (.ifCond .eq 11, 3) := by decide +kernel
theorem dX9_kind_13 : decode cX9_kind 13 = .ok (.aload_n 0, 1) := by decide +kernel
theorem dX9_kind_14 : decode cX9_kind 14 = .ok (.iload_n 1, 1) := by decide +kernel
theorem dX9_kind_15 : decode cX9_kind 15 = .ok (.invokevirtual 257, 3) := by decide +kernel
theorem dX9_kind_18 : decode cX9_kind 18 = .ok (.goto 5, 3) := by decide +kernel
theorem dX9_kind_21 : decode cX9_kind 21 = .ok (.ldc 79, 2) := by decide +kernel
theorem dX9_kind_23 : decode cX9_kind 23 = .ok (.ireturn, 1) := by decide +kernel
theorem dX9_as_0 : decode cX9_as 0 = .ok (.aload_n 0, 1) := by decide +kernel
theorem dX9_as_1 : decode cX9_as 1 = .ok (.iconst 0, 1) := by decide +kernel
theorem dX9_as_2 : decode cX9_as 2 = .ok (.putfield 59, 3) := by decide +kernel
theorem dX9_as_5 : decode cX9_as 5 = .ok (.aload_n 0, 1) := by decide +kernel
theorem dX9_as_6 : decode cX9_as 6 = .ok (.iload_n 1, 1) := by decide +kernel
theorem dX9_as_7 : decode cX9_as 7 = .ok (.invokevirtual 182, 3) := by decide +kernel
theorem dX9_as_10 : decode cX9_as 10 = .ok (.ifCond .eq 15, 3) := by decide +kernel
theorem dX9_as_13 : decode cX9_as 13 = .ok (.iload_n 2, 1) := by decide +kernel
theorem dX9_as_14 : decode cX9_as 14 = .ok (.i2l, 1) := by decide +kernel
theorem dX9_as_15 : decode cX9_as 15 = .ok (.lconst 0, 1) := by decide +kernel
theorem dX9_as_16 : decode cX9_as 16 = .ok (.ldc2_w 260, 3) := by decide +kernel
theorem dX9_as_19 : decode cX9_as 19 = .ok (.invokestatic 69, 3) := by decide +kernel
theorem dX9_as_22 : decode cX9_as 22 = .ok (.ifCond .ne 6, 3) := by decide +kernel
theorem dX9_as_25 : decode cX9_as 25 = .ok (.ldc 79, 2) := by decide +kernel
theorem dX9_as_27 : decode cX9_as 27 = .ok (.ireturn, 1) := by decide +kernel
theorem dX9_as_28 : decode cX9_as 28 = .ok (.aload_n 0, 1) := by decide +kernel
theorem dX9_as_29 : decode cX9_as 29 = .ok (.iconst 0, 1) := by decide +kernel
theorem dX9_as_30 : decode cX9_as 30 = .ok (.putfield 63, 3) := by decide +kernel
theorem dX9_as_33 : decode cX9_as 33 = .ok (.aload_n 0, 1) := by decide +kernel
theorem dX9_as_34 : decode cX9_as 34 = .ok (.iload_n 1, 1) := by decide +kernel
theorem dX9_as_35 : decode cX9_as 35 = .ok (.invokevirtual 257, 3) := by decide +kernel
theorem dX9_as_38 : decode cX9_as 38 = .ok (.iload_n 2, 1) := by decide +kernel
theorem dX9_as_39 : decode cX9_as 39 = .ok (.invokestatic 262, 3) := by decide +kernel
theorem dX9_as_42 : decode cX9_as 42 = .ok (.ifCond .eq 7, 3) := by decide +kernel
theorem dX9_as_45 : decode cX9_as 45 = .ok (.iload_n 1, 1) := by decide +kernel
theorem dX9_as_46 : decode cX9_as 46 = .ok (.goto 8, 3) := by decide +kernel
theorem dX9_as_49 : decode cX9_as 49 = .ok (.aload_n 0, 1) := by decide +kernel
theorem dX9_as_50 : decode cX9_as 50 = .ok (.iconst 3, 1) := by decide +kernel
theorem dX9_as_51 : decode cX9_as 51 = .ok (.invokevirtual 80, 3) := by decide +kernel
theorem dX9_as_54 : decode cX9_as 54 = .ok (.ireturn, 1) := by decide +kernel
theorem dX9_began_0 : decode cX9_began 0 = .ok (.aload_n 0, 1) := by decide +kernel
theorem dX9_began_1 : decode cX9_began 1 = .ok (.getfield 265, 3) := by decide +kernel
theorem dX9_began_4 : decode cX9_began 4 = .ok (.bipush 16, 2) := by decide +kernel
theorem dX9_began_6 : decode cX9_began 6 = .ok (.if_icmp .ge 23, 3) := by decide +kernel
theorem dX9_began_9 : decode cX9_began 9 = .ok (.aload_n 0, 1) := by decide +kernel
theorem dX9_began_10 : decode cX9_began 10 = .ok (.getfield 56, 3) := by decide +kernel
theorem dX9_began_13 : decode cX9_began 13 = .ok (.aload_n 0, 1) := by decide +kernel
theorem dX9_began_14 : decode cX9_began 14 = .ok (.getfield 265, 3) := by decide +kernel
theorem dX9_began_17 : decode cX9_began 17 = .ok (.iload_n 1, 1) := by decide +kernel
theorem dX9_began_18 : decode cX9_began 18 = .ok (.iastore, 1) := by decide +kernel
theorem dX9_began_19 : decode cX9_began 19 = .ok (.aload_n 0, 1) := by decide +kernel
theorem dX9_began_20 : decode cX9_began 20 = .ok (.dup, 1) := by decide +kernel
theorem dX9_began_21 : decode cX9_began 21 = .ok (.getfield 265, 3) := by decide +kernel
theorem dX9_began_24 : decode cX9_began 24 = .ok (.iconst 1, 1) := by decide +kernel
theorem dX9_began_25 : decode cX9_began 25 = .ok (.iadd, 1) := by decide +kernel
theorem dX9_began_26 : decode cX9_began 26 = .ok (.putfield 265, 3) := by decide +kernel
theorem dX9_began_29 : decode cX9_began 29 = .ok (.return_, 1) := by decide +kernel
theorem dX9_plainSize_0 : decode cX9_plainSize 0 = .ok (.aload_n 0, 1) := by decide +kernel
theorem dX9_plainSize_1 : decode cX9_plainSize 1 = .ok (.bipush 10, 2) := by decide +kernel
theorem dX9_plainSize_3 : decode cX9_plainSize 3 = .ok (.invokevirtual 268, 3) := by decide +kernel
theorem dX9_plainSize_6 : decode cX9_plainSize 6 = .ok (.aload_n 0, 1) := by decide +kernel
theorem dX9_plainSize_7 : decode cX9_plainSize 7 = .ok (.getfield 19, 3) := by decide +kernel
theorem dX9_plainSize_10 : decode cX9_plainSize 10 = .ok (.iconst 2, 1) := by decide +kernel
theorem dX9_plainSize_11 : decode cX9_plainSize 11 = .ok (.iconst 3, 1) := by decide +kernel
theorem dX9_plainSize_12 : decode cX9_plainSize 12 = .ok (.iload_n 1, 1) := by decide +kernel
theorem dX9_plainSize_13 : decode cX9_plainSize 13 = .ok (.imul, 1) := by decide +kernel
theorem dX9_plainSize_14 : decode cX9_plainSize 14 = .ok (.iadd, 1) := by decide +kernel
theorem dX9_plainSize_15 : decode cX9_plainSize 15 = .ok (.iconst 1, 1) := by decide +kernel
theorem dX9_plainSize_16 : decode cX9_plainSize 16 = .ok (.iadd, 1) := by decide +kernel
theorem dX9_plainSize_17 : decode cX9_plainSize 17 = .ok (.iaload, 1) := by decide +kernel
theorem dX9_plainSize_18 : decode cX9_plainSize 18 = .ok (.ireturn, 1) := by decide +kernel
theorem dX9_freeSize_0 : decode cX9_freeSize 0 = .ok (.iload_n 2, 1) := by decide +kernel
theorem dX9_freeSize_1 : decode cX9_freeSize 1 = .ok (.iconst 5, 1) := by decide +kernel
theorem dX9_freeSize_2 : decode cX9_freeSize 2 = .ok (.if_icmp .ne 9, 3) := by decide +kernel
theorem dX9_freeSize_5 : decode cX9_freeSize 5 = .ok (.aload_n 0, 1) := by decide +kernel
theorem dX9_freeSize_6 : decode cX9_freeSize 6 = .ok (.bipush 14, 2) := by decide +kernel
theorem dX9_freeSize_8 : decode cX9_freeSize 8 = .ok (.invokevirtual 268, 3) := by decide +kernel
theorem dX9_freeSize_11 : decode cX9_freeSize 11 = .ok (.aload_n 0, 1) := by decide +kernel
theorem dX9_freeSize_12 : decode cX9_freeSize 12 = .ok (.bipush 13, 2) := by decide +kernel
theorem dX9_freeSize_14 : decode cX9_freeSize 14 = .ok (.invokevirtual 268, 3) := by decide +kernel
theorem dX9_freeSize_17 : decode cX9_freeSize 17 = .ok (.aload_n 0, 1) := by decide +kernel
theorem dX9_freeSize_18 : decode cX9_freeSize 18 = .ok (.iload_n 1, 1) := by decide +kernel
theorem dX9_freeSize_19 : decode cX9_freeSize 19 = .ok (.invokevirtual 271, 3) := by decide +kernel
theorem dX9_freeSize_22 : decode cX9_freeSize 22 = .ok (.bipush 100, 2) := by decide +kernel
theorem dX9_freeSize_24 : decode cX9_freeSize 24 = .ok (.isub, 1) := by decide +kernel
theorem dX9_freeSize_25 : decode cX9_freeSize 25 = .ok (.istore_n 3, 1) := by decide +kernel
theorem dX9_freeSize_26 : decode cX9_freeSize 26 = .ok (.iload_n 2, 1) := by decide +kernel
theorem dX9_freeSize_27 : decode cX9_freeSize 27 = .ok (.iconst 5, 1) := by decide +kernel
theorem dX9_freeSize_28 : decode cX9_freeSize 28 = .ok (.if_icmp .ne 9, 3) := by decide +kernel
theorem dX9_freeSize_31 : decode cX9_freeSize 31 = .ok (.iconst 2, 1) := by decide +kernel
theorem dX9_freeSize_32 : decode cX9_freeSize 32 = .ok (.iload_n 3, 1) := by decide +kernel
theorem dX9_freeSize_33 : decode cX9_freeSize 33 = .ok (.imul, 1) := by decide +kernel
theorem dX9_freeSize_34 : decode cX9_freeSize 34 = .ok (.goto 4, 3) := by decide +kernel
theorem dX9_freeSize_37 : decode cX9_freeSize 37 = .ok (.iload_n 3, 1) := by decide +kernel
theorem dX9_freeSize_38 : decode cX9_freeSize 38 = .ok (.ireturn, 1) := by decide +kernel
theorem dX9_markOf_0 : decode cX9_markOf 0 = .ok (.iload_n 2, 1) := by decide +kernel
theorem dX9_markOf_1 : decode cX9_markOf 1 = .ok (.iconst 4, 1) := by decide +kernel
theorem dX9_markOf_2 : decode cX9_markOf 2 = .ok (.if_icmp .lt 24, 3) := by decide +kernel
theorem dX9_markOf_5 : decode cX9_markOf 5 = .ok (.aload_n 0, 1) := by decide +kernel
theorem dX9_markOf_6 : decode cX9_markOf 6 = .ok (.bipush 23, 2) := by decide +kernel
theorem dX9_markOf_8 : decode cX9_markOf 8 = .ok (.invokevirtual 268, 3) := by decide +kernel
theorem dX9_markOf_11 : decode cX9_markOf 11 = .ok (.aload_n 0, 1) := by decide +kernel
theorem dX9_markOf_12 : decode cX9_markOf 12 = .ok (.bipush 20, 2) := by decide +kernel
theorem dX9_markOf_14 : decode cX9_markOf 14 = .ok (.invokevirtual 268, 3) := by decide +kernel
theorem dX9_markOf_17 : decode cX9_markOf 17 = .ok (.iload_n 1, 1) := by decide +kernel
theorem dX9_markOf_18 : decode cX9_markOf 18 = .ok (.aload_n 0, 1) := by decide +kernel
theorem dX9_markOf_19 : decode cX9_markOf 19 = .ok (.iload_n 1, 1) := by decide +kernel
theorem dX9_markOf_20 : decode cX9_markOf 20 = .ok (.iload_n 2, 1) := by decide +kernel
theorem dX9_markOf_21 : decode cX9_markOf 21 = .ok (.invokevirtual 274, 3) := by decide +kernel
theorem dX9_markOf_24 : decode cX9_markOf 24 = .ok (.isub, 1) := by decide +kernel
theorem dX9_markOf_25 : decode cX9_markOf 25 = .ok (.ireturn, 1) := by decide +kernel
theorem dX9_markOf_26 : decode cX9_markOf 26 = .ok (.iload_n 2, 1) := by decide +kernel
theorem dX9_markOf_27 : decode cX9_markOf 27 = .ok (.iconst 1, 1) := by decide +kernel
theorem dX9_markOf_28 : decode cX9_markOf 28 = .ok (.if_icmp .eq 19, 3) := by decide +kernel
theorem dX9_markOf_31 : decode cX9_markOf 31 = .ok (.aload_n 0, 1) := by decide +kernel
theorem dX9_markOf_32 : decode cX9_markOf 32 = .ok (.iload_n 2, 1) := by decide +kernel
theorem dX9_markOf_33 : decode cX9_markOf 33 = .ok (.iconst 2, 1) := by decide +kernel
theorem dX9_markOf_34 : decode cX9_markOf 34 = .ok (.if_icmp .ne 8, 3) := by decide +kernel
theorem dX9_markOf_37 : decode cX9_markOf 37 = .ok (.bipush 24, 2) := by decide +kernel
theorem dX9_markOf_39 : decode cX9_markOf 39 = .ok (.goto 5, 3) := by decide +kernel
theorem dX9_markOf_42 : decode cX9_markOf 42 = .ok (.bipush 22, 2) := by decide +kernel
theorem dX9_markOf_44 : decode cX9_markOf 44 = .ok (.invokevirtual 268, 3) := by decide +kernel
theorem dX9_markOf_47 : decode cX9_markOf 47 = .ok (.aload_n 0, 1) := by decide +kernel
theorem dX9_markOf_48 : decode cX9_markOf 48 = .ok (.bipush 21, 2) := by decide +kernel
theorem dX9_markOf_50 : decode cX9_markOf 50 = .ok (.invokevirtual 268, 3) := by decide +kernel
theorem dX9_markOf_53 : decode cX9_markOf 53 = .ok (.aload_n 0, 1) := by decide +kernel
theorem dX9_markOf_54 : decode cX9_markOf 54 = .ok (.bipush 20, 2) := by decide +kernel
theorem dX9_markOf_56 : decode cX9_markOf 56 = .ok (.invokevirtual 268, 3) := by decide +kernel
theorem dX9_markOf_59 : decode cX9_markOf 59 = .ok (.iload_n 1, 1) := by decide +kernel
theorem dX9_markOf_60 : decode cX9_markOf 60 = .ok (.bipush 10, 2) := by decide +kernel
theorem dX9_markOf_62 : decode cX9_markOf 62 = .ok (.aload_n 0, 1) := by decide +kernel
theorem dX9_markOf_63 : decode cX9_markOf 63 = .ok (.getfield 19, 3) := by decide +kernel
theorem dX9_markOf_66 : decode cX9_markOf 66 = .ok (.iconst 2, 1) := by decide +kernel
theorem dX9_markOf_67 : decode cX9_markOf 67 = .ok (.iconst 3, 1) := by decide +kernel
theorem dX9_markOf_68 : decode cX9_markOf 68 = .ok (.iload_n 1, 1) := by decide +kernel
theorem dX9_markOf_69 : decode cX9_markOf 69 = .ok (.imul, 1) := by decide +kernel
theorem dX9_markOf_70 : decode cX9_markOf 70 = .ok (.iadd, 1) := by decide +kernel
theorem dX9_markOf_71 : decode cX9_markOf 71 = .ok (.iaload, 1) := by decide +kernel
theorem dX9_markOf_72 : decode cX9_markOf 72 = .ok (.imul, 1) := by decide +kernel
theorem dX9_markOf_73 : decode cX9_markOf 73 = .ok (.iadd, 1) := by decide +kernel
theorem dX9_markOf_74 : decode cX9_markOf 74 = .ok (.istore_n 3, 1) := by decide +kernel
theorem dX9_markOf_75 : decode cX9_markOf 75 = .ok (.iload_n 2, 1) := by decide +kernel
theorem dX9_markOf_76 : decode cX9_markOf 76 = .ok (.iconst 1, 1) := by decide +kernel
theorem dX9_markOf_77 : decode cX9_markOf 77 = .ok (.if_icmp .ne 7, 3) := by decide +kernel
theorem dX9_markOf_80 : decode cX9_markOf 80 = .ok (.iload_n 3, 1) := by decide +kernel
theorem dX9_markOf_81 : decode cX9_markOf 81 = .ok (.goto 19, 3) := by decide +kernel
theorem dX9_markOf_84 : decode cX9_markOf 84 = .ok (.iload_n 2, 1) := by decide +kernel
theorem dX9_markOf_85 : decode cX9_markOf 85 = .ok (.iconst 2, 1) := by decide +kernel
theorem dX9_markOf_86 : decode cX9_markOf 86 = .ok (.if_icmp .ne 9, 3) := by decide +kernel
theorem dX9_markOf_89 : decode cX9_markOf 89 = .ok (.iconst 2, 1) := by decide +kernel
theorem dX9_markOf_90 : decode cX9_markOf 90 = .ok (.iload_n 3, 1) := by decide +kernel
theorem dX9_markOf_91 : decode cX9_markOf 91 = .ok (.imul, 1) := by decide +kernel
theorem dX9_markOf_92 : decode cX9_markOf 92 = .ok (.goto 8, 3) := by decide +kernel
theorem dX9_markOf_95 : decode cX9_markOf 95 = .ok (.iload_n 3, 1) := by decide +kernel
theorem dX9_markOf_96 : decode cX9_markOf 96 = .ok (.sipush 1000, 3) := by decide +kernel
theorem dX9_markOf_99 : decode cX9_markOf 99 = .ok (.isub, 1) := by decide +kernel
theorem dX9_markOf_100 : decode cX9_markOf 100 = .ok (.ireturn, 1) := by decide +kernel
theorem dX9_sizeOf_0 : decode cX9_sizeOf 0 = .ok (.iload_n 2, 1) := by decide +kernel
theorem dX9_sizeOf_1 : decode cX9_sizeOf 1 = .ok (.iconst 4, 1) := by decide +kernel
theorem dX9_sizeOf_2 : decode cX9_sizeOf 2 = .ok (.if_icmp .lt 10, 3) := by decide +kernel
theorem dX9_sizeOf_5 : decode cX9_sizeOf 5 = .ok (.aload_n 0, 1) := by decide +kernel
theorem dX9_sizeOf_6 : decode cX9_sizeOf 6 = .ok (.iload_n 1, 1) := by decide +kernel
theorem dX9_sizeOf_7 : decode cX9_sizeOf 7 = .ok (.iload_n 2, 1) := by decide +kernel
theorem dX9_sizeOf_8 : decode cX9_sizeOf 8 = .ok (.invokevirtual 274, 3) := by decide +kernel
theorem dX9_sizeOf_11 : decode cX9_sizeOf 11 = .ok (.ireturn, 1) := by decide +kernel
theorem dX9_sizeOf_12 : decode cX9_sizeOf 12 = .ok (.iload_n 2, 1) := by decide +kernel
theorem dX9_sizeOf_13 : decode cX9_sizeOf 13 = .ok (.iconst 2, 1) := by decide +kernel
theorem dX9_sizeOf_14 : decode cX9_sizeOf 14 = .ok (.if_icmp .ne 9, 3) := by decide +kernel
theorem dX9_sizeOf_17 : decode cX9_sizeOf 17 = .ok (.aload_n 0, 1) := by decide +kernel
theorem dX9_sizeOf_18 : decode cX9_sizeOf 18 = .ok (.bipush 12, 2) := by decide +kernel
theorem dX9_sizeOf_20 : decode cX9_sizeOf 20 = .ok (.invokevirtual 268, 3) := by decide +kernel
theorem dX9_sizeOf_23 : decode cX9_sizeOf 23 = .ok (.aload_n 0, 1) := by decide +kernel
theorem dX9_sizeOf_24 : decode cX9_sizeOf 24 = .ok (.bipush 11, 2) := by decide +kernel
theorem dX9_sizeOf_26 : decode cX9_sizeOf 26 = .ok (.invokevirtual 268, 3) := by decide +kernel
theorem dX9_sizeOf_29 : decode cX9_sizeOf 29 = .ok (.aload_n 0, 1) := by decide +kernel
theorem dX9_sizeOf_30 : decode cX9_sizeOf 30 = .ok (.iload_n 1, 1) := by decide +kernel
theorem dX9_sizeOf_31 : decode cX9_sizeOf 31 = .ok (.invokevirtual 271, 3) := by decide +kernel
theorem dX9_sizeOf_34 : decode cX9_sizeOf 34 = .ok (.istore_n 3, 1) := by decide +kernel
theorem dX9_sizeOf_35 : decode cX9_sizeOf 35 = .ok (.iload_n 3, 1) := by decide +kernel
theorem dX9_sizeOf_36 : decode cX9_sizeOf 36 = .ok (.aload_n 0, 1) := by decide +kernel
theorem dX9_sizeOf_37 : decode cX9_sizeOf 37 = .ok (.iload_n 1, 1) := by decide +kernel
theorem dX9_sizeOf_38 : decode cX9_sizeOf 38 = .ok (.iload_n 2, 1) := by decide +kernel
theorem dX9_sizeOf_39 : decode cX9_sizeOf 39 = .ok (.invokevirtual 277, 3) := by decide +kernel
theorem dX9_sizeOf_42 : decode cX9_sizeOf 42 = .ok (.iadd, 1) := by decide +kernel
theorem dX9_sizeOf_43 : decode cX9_sizeOf 43 = .ok (.istore_n 3, 1) := by decide +kernel
theorem dX9_sizeOf_44 : decode cX9_sizeOf 44 = .ok (.iload_n 2, 1) := by decide +kernel
theorem dX9_sizeOf_45 : decode cX9_sizeOf 45 = .ok (.iconst 2, 1) := by decide +kernel
theorem dX9_sizeOf_46 : decode cX9_sizeOf 46 = .ok (.if_icmp .ne 8, 3) := by decide +kernel
theorem dX9_sizeOf_49 : decode cX9_sizeOf 49 = .ok (.iload_n 3, 1) := by decide +kernel
theorem dX9_sizeOf_50 : decode cX9_sizeOf 50 = .ok (.ineg, 1) := by decide +kernel
theorem dX9_sizeOf_51 : decode cX9_sizeOf 51 = .ok (.goto 4, 3) := by decide +kernel
theorem dX9_sizeOf_54 : decode cX9_sizeOf 54 = .ok (.iload_n 3, 1) := by decide +kernel
theorem dX9_sizeOf_55 : decode cX9_sizeOf 55 = .ok (.ireturn, 1) := by decide +kernel
theorem dX9_ask_0 : decode cX9_ask 0 = .ok (.aload_n 0, 1) := by decide +kernel
theorem dX9_ask_1 : decode cX9_ask 1 = .ok (.iconst 0, 1) := by decide +kernel
theorem dX9_ask_2 : decode cX9_ask 2 = .ok (.putfield 59, 3) := by decide +kernel
theorem dX9_ask_5 : decode cX9_ask 5 = .ok (.aload_n 0, 1) := by decide +kernel
theorem dX9_ask_6 : decode cX9_ask 6 = .ok (.iload_n 1, 1) := by decide +kernel
theorem dX9_ask_7 : decode cX9_ask 7 = .ok (.invokevirtual 182, 3) := by decide +kernel
theorem dX9_ask_10 : decode cX9_ask 10 = .ok (.ifCond .eq 13, 3) := by decide +kernel
theorem dX9_ask_13 : decode cX9_ask 13 = .ok (.iload_n 2, 1) := by decide +kernel
theorem dX9_ask_14 : decode cX9_ask 14 = .ok (.i2l, 1) := by decide +kernel
theorem dX9_ask_15 : decode cX9_ask 15 = .ok (.lconst 0, 1) := by decide +kernel
theorem dX9_ask_16 : decode cX9_ask 16 = .ok (.lconst 1, 1) := by decide +kernel
theorem dX9_ask_17 : decode cX9_ask 17 = .ok (.invokestatic 69, 3) := by decide +kernel
theorem dX9_ask_20 : decode cX9_ask 20 = .ok (.ifCond .ne 6, 3) := by decide +kernel
theorem dX9_ask_23 : decode cX9_ask 23 = .ok (.ldc 79, 2) := by decide +kernel
theorem dX9_ask_25 : decode cX9_ask 25 = .ok (.ireturn, 1) := by decide +kernel
theorem dX9_ask_26 : decode cX9_ask 26 = .ok (.aload_n 0, 1) := by decide +kernel
theorem dX9_ask_27 : decode cX9_ask 27 = .ok (.iconst 0, 1) := by decide +kernel
theorem dX9_ask_28 : decode cX9_ask 28 = .ok (.putfield 265, 3) := by decide +kernel
theorem dX9_ask_31 : decode cX9_ask 31 = .ok (.iload_n 2, 1) := by decide +kernel
theorem dX9_ask_32 : decode cX9_ask 32 = .ok (.ifCond .ne 16, 3) := by decide +kernel
theorem dX9_ask_35 : decode cX9_ask 35 = .ok (.aload_n 0, 1) := by decide +kernel
theorem dX9_ask_36 : decode cX9_ask 36 = .ok (.iload_n 1, 1) := by decide +kernel
theorem dX9_ask_37 : decode cX9_ask 37 = .ok (.aload_n 0, 1) := by decide +kernel
theorem dX9_ask_38 : decode cX9_ask 38 = .ok (.iload_n 1, 1) := by decide +kernel
theorem dX9_ask_39 : decode cX9_ask 39 = .ok (.invokevirtual 257, 3) := by decide +kernel
theorem dX9_ask_42 : decode cX9_ask 42 = .ok (.invokevirtual 280, 3) := by decide +kernel
theorem dX9_ask_45 : decode cX9_ask 45 = .ok (.goto 13, 3) := by decide +kernel
theorem dX9_ask_48 : decode cX9_ask 48 = .ok (.aload_n 0, 1) := by decide +kernel
theorem dX9_ask_49 : decode cX9_ask 49 = .ok (.iload_n 1, 1) := by decide +kernel
theorem dX9_ask_50 : decode cX9_ask 50 = .ok (.aload_n 0, 1) := by decide +kernel
theorem dX9_ask_51 : decode cX9_ask 51 = .ok (.iload_n 1, 1) := by decide +kernel
theorem dX9_ask_52 : decode cX9_ask 52 = .ok (.invokevirtual 257, 3) := by decide +kernel
theorem dX9_ask_55 : decode cX9_ask 55 = .ok (.invokevirtual 277, 3) := by decide +kernel
theorem dX9_ask_58 : decode cX9_ask 58 = .ok (.ireturn, 1) := by decide +kernel
theorem dX9_trace_0 : decode cX9_trace 0 = .ok (.aload_n 0, 1) := by decide +kernel
theorem dX9_trace_1 : decode cX9_trace 1 = .ok (.iconst 0, 1) := by decide +kernel
theorem dX9_trace_2 : decode cX9_trace 2 = .ok (.putfield 59, 3) := by decide +kernel
theorem dX9_trace_5 : decode cX9_trace 5 = .ok (.iload_n 1, 1) := by decide +kernel
theorem dX9_trace_6 : decode cX9_trace 6 = .ok (.i2l, 1) := by decide +kernel
theorem dX9_trace_7 : decode cX9_trace 7 = .ok (.lconst 0, 1) := by decide +kernel
theorem dX9_trace_8 : decode cX9_trace 8 = .ok (.aload_n 0, 1) := by decide +kernel
theorem dX9_trace_9 : decode cX9_trace 9 = .ok (.getfield 265, 3) := by decide +kernel
theorem dX9_trace_12 : decode cX9_trace 12 = .ok (.iconst 1, 1) := by decide +kernel
theorem dX9_trace_13 : decode cX9_trace 13 = .ok (.isub, 1) := by decide +kernel
theorem dX9_trace_14 : decode cX9_trace 14 = .ok (.i2l, 1) := by decide +kernel
theorem dX9_trace_15 : decode cX9_trace 15 = .ok (.invokestatic 69, 3) := by decide +kernel
theorem dX9_trace_18 : decode cX9_trace 18 = .ok (.ifCond .eq 12, 3) := by decide +kernel
theorem dX9_trace_21 : decode cX9_trace 21 = .ok (.aload_n 0, 1) := by decide +kernel
theorem dX9_trace_22 : decode cX9_trace 22 = .ok (.getfield 56, 3) := by decide +kernel
theorem dX9_trace_25 : decode cX9_trace 25 = .ok (.iload_n 1, 1) := by decide +kernel
theorem dX9_trace_26 : decode cX9_trace 26 = .ok (.iaload, 1) := by decide +kernel
theorem dX9_trace_27 : decode cX9_trace 27 = .ok (.goto 5, 3) := by decide +kernel
theorem dX9_trace_30 : decode cX9_trace 30 = .ok (.ldc 95, 2) := by decide +kernel
theorem dX9_trace_32 : decode cX9_trace 32 = .ok (.ireturn, 1) := by decide +kernel
theorem dX9_count_0 : decode cX9_count 0 = .ok (.aload_n 0, 1) := by decide +kernel
theorem dX9_count_1 : decode cX9_count 1 = .ok (.iconst 0, 1) := by decide +kernel
theorem dX9_count_2 : decode cX9_count 2 = .ok (.putfield 59, 3) := by decide +kernel
theorem dX9_count_5 : decode cX9_count 5 = .ok (.iconst 0, 1) := by decide +kernel
theorem dX9_count_6 : decode cX9_count 6 = .ok (.istore_n 2, 1) := by decide +kernel
theorem dX9_count_7 : decode cX9_count 7 = .ok (.iload_n 1, 1) := by decide +kernel
theorem dX9_count_8 : decode cX9_count 8 = .ok (.tableswitch 127 0 5 #[40, 73, 73, 82, 117, 122], 40) := by decide +kernel
theorem dX9_count_48 : decode cX9_count 48 = .ok (.iconst 0, 1) := by decide +kernel
theorem dX9_count_49 : decode cX9_count 49 = .ok (.istore_n 3, 1) := by decide +kernel
theorem dX9_count_50 : decode cX9_count 50 = .ok (.iload_n 3, 1) := by decide +kernel
theorem dX9_count_51 : decode cX9_count 51 = .ok (.bipush 8, 2) := by decide +kernel
theorem dX9_count_53 : decode cX9_count 53 = .ok (.if_icmp .ge 26, 3) := by decide +kernel
theorem dX9_count_56 : decode cX9_count 56 = .ok (.iload_n 2, 1) := by decide +kernel
theorem dX9_count_57 : decode cX9_count 57 = .ok (.aload_n 0, 1) := by decide +kernel
theorem dX9_count_58 : decode cX9_count 58 = .ok (.getfield 7, 3) := by decide +kernel
theorem dX9_count_61 : decode cX9_count 61 = .ok (.iload_n 3, 1) := by decide +kernel
theorem dX9_count_62 : decode cX9_count 62 = .ok (.iaload, 1) := by decide +kernel
theorem dX9_count_63 : decode cX9_count 63 = .ok (.ifCond .lt 7, 3) := by decide +kernel
theorem dX9_count_66 : decode cX9_count 66 = .ok (.iconst 1, 1) := by decide +kernel
theorem dX9_count_67 : decode cX9_count 67 = .ok (.goto 4, 3) := by decide +kernel
theorem dX9_count_70 : decode cX9_count 70 = .ok (.iconst 0, 1) := by decide +kernel
theorem dX9_count_71 : decode cX9_count 71 = .ok (.iadd, 1) := by decide +kernel
theorem dX9_count_72 : decode cX9_count 72 = .ok (.istore_n 2, 1) := by decide +kernel
theorem dX9_count_73 : decode cX9_count 73 = .ok (.iinc 3 1, 3) := by decide +kernel
theorem dX9_count_76 : decode cX9_count 76 = .ok (.goto (-26), 3) := by decide +kernel
theorem dX9_count_79 : decode cX9_count 79 = .ok (.iload_n 2, 1) := by decide +kernel
theorem dX9_count_80 : decode cX9_count 80 = .ok (.ireturn, 1) := by decide +kernel
theorem dX9_count_81 : decode cX9_count 81 = .ok (.aload_n 0, 1) := by decide +kernel
theorem dX9_count_82 : decode cX9_count 82 = .ok (.getfield 19, 3) := by decide +kernel
theorem dX9_count_85 : decode cX9_count 85 = .ok (.iload_n 1, 1) := by decide +kernel
theorem dX9_count_86 : decode cX9_count 86 = .ok (.iconst 1, 1) := by decide +kernel
theorem dX9_count_87 : decode cX9_count 87 = .ok (.isub, 1) := by decide +kernel
theorem dX9_count_88 : decode cX9_count 88 = .ok (.iaload, 1) := by decide +kernel
theorem dX9_count_89 : decode cX9_count 89 = .ok (.ireturn, 1) := by decide +kernel
theorem dX9_count_90 : decode cX9_count 90 = .ok (.iconst 0, 1) := by decide +kernel
theorem dX9_count_91 : decode cX9_count 91 = .ok (.istore_n 3, 1) := by decide +kernel
theorem dX9_count_92 : decode cX9_count 92 = .ok (.iload_n 3, 1) := by decide +kernel
theorem dX9_count_93 : decode cX9_count 93 = .ok (.aload_n 0, 1) := by decide +kernel
theorem dX9_count_94 : decode cX9_count 94 = .ok (.getfield 19, 3) := by decide +kernel
theorem dX9_count_97 : decode cX9_count 97 = .ok (.iconst 0, 1) := by decide +kernel
theorem dX9_count_98 : decode cX9_count 98 = .ok (.iaload, 1) := by decide +kernel
theorem dX9_count_99 : decode cX9_count 99 = .ok (.if_icmp .ge 24, 3) := by decide +kernel
theorem dX9_count_102 : decode cX9_count 102 = .ok (.iload_n 2, 1) := by decide +kernel
theorem dX9_count_103 : decode cX9_count 103 = .ok (.aload_n 0, 1) := by decide +kernel
theorem dX9_count_104 : decode cX9_count 104 = .ok (.getfield 19, 3) := by decide +kernel
theorem dX9_count_107 : decode cX9_count 107 = .ok (.iconst 2, 1) := by decide +kernel
theorem dX9_count_108 : decode cX9_count 108 = .ok (.iconst 3, 1) := by decide +kernel
theorem dX9_count_109 : decode cX9_count 109 = .ok (.iload_n 3, 1) := by decide +kernel
theorem dX9_count_110 : decode cX9_count 110 = .ok (.imul, 1) := by decide +kernel
theorem dX9_count_111 : decode cX9_count 111 = .ok (.iadd, 1) := by decide +kernel
theorem dX9_count_112 : decode cX9_count 112 = .ok (.iconst 2, 1) := by decide +kernel
theorem dX9_count_113 : decode cX9_count 113 = .ok (.iadd, 1) := by decide +kernel
theorem dX9_count_114 : decode cX9_count 114 = .ok (.iaload, 1) := by decide +kernel
theorem dX9_count_115 : decode cX9_count 115 = .ok (.iadd, 1) := by decide +kernel
theorem dX9_count_116 : decode cX9_count 116 = .ok (.istore_n 2, 1) := by decide +kernel
theorem dX9_count_117 : decode cX9_count 117 = .ok (.iinc 3 1, 3) := by decide +kernel
theorem dX9_count_120 : decode cX9_count 120 = .ok (.goto (-28), 3) := by decide +kernel
theorem dX9_count_123 : decode cX9_count 123 = .ok (.iload_n 2, 1) := by decide +kernel
theorem dX9_count_124 : decode cX9_count 124 = .ok (.ireturn, 1) := by decide +kernel
theorem dX9_count_125 : decode cX9_count 125 = .ok (.aload_n 0, 1) := by decide +kernel
theorem dX9_count_126 : decode cX9_count 126 = .ok (.getfield 174, 3) := by decide +kernel
theorem dX9_count_129 : decode cX9_count 129 = .ok (.ireturn, 1) := by decide +kernel
theorem dX9_count_130 : decode cX9_count 130 = .ok (.aload_n 0, 1) := by decide +kernel
theorem dX9_count_131 : decode cX9_count 131 = .ok (.getfield 86, 3) := by decide +kernel
theorem dX9_count_134 : decode cX9_count 134 = .ok (.ireturn, 1) := by decide +kernel
theorem dX9_count_135 : decode cX9_count 135 = .ok (.ldc 79, 2) := by decide +kernel
theorem dX9_count_137 : decode cX9_count 137 = .ok (.ireturn, 1) := by decide +kernel
theorem dX9_status_0 : decode cX9_status 0 = .ok (.aload_n 0, 1) := by decide +kernel
theorem dX9_status_1 : decode cX9_status 1 = .ok (.iconst 0, 1) := by decide +kernel
theorem dX9_status_2 : decode cX9_status 2 = .ok (.putfield 59, 3) := by decide +kernel
theorem dX9_status_5 : decode cX9_status 5 = .ok (.aload_n 0, 1) := by decide +kernel
theorem dX9_status_6 : decode cX9_status 6 = .ok (.getfield 63, 3) := by decide +kernel
theorem dX9_status_9 : decode cX9_status 9 = .ok (.ireturn, 1) := by decide +kernel
theorem dJ9_max_7cf53_0 : decode cJ9_max_7cf53 0 = .ok (.iload_n 0, 1) := by decide +kernel
theorem dJ9_max_7cf53_1 : decode cJ9_max_7cf53 1 = .ok (.iload_n 1, 1) := by decide +kernel
theorem dJ9_max_7cf53_2 : decode cJ9_max_7cf53 2 = .ok (.if_icmp .lt 7, 3) := by decide +kernel
theorem dJ9_max_7cf53_5 : decode cJ9_max_7cf53 5 = .ok (.iload_n 0, 1) := by decide +kernel
theorem dJ9_max_7cf53_6 : decode cJ9_max_7cf53 6 = .ok (.goto 4, 3) := by decide +kernel
theorem dJ9_max_7cf53_9 : decode cJ9_max_7cf53 9 = .ok (.iload_n 1, 1) := by decide +kernel
theorem dJ9_max_7cf53_10 : decode cJ9_max_7cf53 10 = .ok (.ireturn, 1) := by decide +kernel
theorem dJ9_min_7cf53_0 : decode cJ9_min_7cf53 0 = .ok (.iload_n 0, 1) := by decide +kernel
theorem dJ9_min_7cf53_1 : decode cJ9_min_7cf53 1 = .ok (.iload_n 1, 1) := by decide +kernel
theorem dJ9_min_7cf53_2 : decode cJ9_min_7cf53 2 = .ok (.if_icmp .gt 7, 3) := by decide +kernel
theorem dJ9_min_7cf53_5 : decode cJ9_min_7cf53 5 = .ok (.iload_n 0, 1) := by decide +kernel
theorem dJ9_min_7cf53_6 : decode cJ9_min_7cf53 6 = .ok (.goto 4, 3) := by decide +kernel
theorem dJ9_min_7cf53_9 : decode cJ9_min_7cf53 9 = .ok (.iload_n 1, 1) := by decide +kernel
theorem dJ9_min_7cf53_10 : decode cJ9_min_7cf53 10 = .ok (.ireturn, 1) := by decide +kernel
theorem dJ0_length_8abf5_0 : decode cJ0_length_8abf5 0 = .ok (.aload_n 0, 1) := by decide +kernel
theorem dJ0_length_8abf5_1 : decode cJ0_length_8abf5 1 = .ok (.getfield 9, 3) := by decide +kernel
theorem dJ0_length_8abf5_4 : decode cJ0_length_8abf5 4 = .ok (.arraylength, 1) := by decide +kernel
theorem dJ0_length_8abf5_5 : decode cJ0_length_8abf5 5 = .ok (.aload_n 0, 1) := by decide +kernel
theorem dJ0_length_8abf5_6 : decode cJ0_length_8abf5 6 = .ok (.invokevirtual 335, 3) := by decide +kernel
theorem dJ0_length_8abf5_9 : decode cJ0_length_8abf5 9 = .ok (.ishr, 1) := by decide +kernel
theorem dJ0_length_8abf5_10 : decode cJ0_length_8abf5 10 = .ok (.ireturn, 1) := by decide +kernel
theorem dJ0_charAt_5068e_0 : decode cJ0_charAt_5068e 0 = .ok (.aload_n 0, 1) := by decide +kernel
theorem dJ0_charAt_5068e_1 : decode cJ0_charAt_5068e 1 = .ok (.invokevirtual 492, 3) := by decide +kernel
theorem dJ0_charAt_5068e_4 : decode cJ0_charAt_5068e 4 = .ok (.ifCond .eq 12, 3) := by decide +kernel
theorem dJ0_charAt_5068e_7 : decode cJ0_charAt_5068e 7 = .ok (.aload_n 0, 1) := by decide +kernel
theorem dJ0_charAt_5068e_8 : decode cJ0_charAt_5068e 8 = .ok (.getfield 9, 3) := by decide +kernel
theorem dJ0_charAt_5068e_11 : decode cJ0_charAt_5068e 11 = .ok (.iload_n 1, 1) := by decide +kernel
theorem dJ0_charAt_5068e_12 : decode cJ0_charAt_5068e 12 = .ok (.invokestatic 495, 3) := by decide +kernel
theorem dJ0_charAt_5068e_15 : decode cJ0_charAt_5068e 15 = .ok (.ireturn, 1) := by decide +kernel
theorem dJ0_charAt_5068e_16 : decode cJ0_charAt_5068e 16 = .ok (.aload_n 0, 1) := by decide +kernel
theorem dJ0_charAt_5068e_17 : decode cJ0_charAt_5068e 17 = .ok (.getfield 9, 3) := by decide +kernel
theorem dJ0_charAt_5068e_20 : decode cJ0_charAt_5068e 20 = .ok (.iload_n 1, 1) := by decide +kernel
theorem dJ0_charAt_5068e_21 : decode cJ0_charAt_5068e 21 = .ok (.invokestatic 498, 3) := by decide +kernel
theorem dJ0_charAt_5068e_24 : decode cJ0_charAt_5068e 24 = .ok (.ireturn, 1) := by decide +kernel
theorem dJ0_coder_7d493_0 : decode cJ0_coder_7d493 0 = .ok (.getstatic 38, 3) := by decide +kernel
theorem dJ0_coder_7d493_3 : decode cJ0_coder_7d493 3 = .ok (.ifCond .eq 10, 3) := by decide +kernel
theorem dJ0_coder_7d493_6 : decode cJ0_coder_7d493 6 = .ok (.aload_n 0, 1) := by decide +kernel
theorem dJ0_coder_7d493_7 : decode cJ0_coder_7d493 7 = .ok (.getfield 15, 3) := by decide +kernel
theorem dJ0_coder_7d493_10 : decode cJ0_coder_7d493 10 = .ok (.goto 4, 3) := by decide +kernel
theorem dJ0_coder_7d493_13 : decode cJ0_coder_7d493 13 = .ok (.iconst 1, 1) := by decide +kernel
theorem dJ0_coder_7d493_14 : decode cJ0_coder_7d493 14 = .ok (.ireturn, 1) := by decide +kernel
theorem dJ0_isLatin1_aae02_0 : decode cJ0_isLatin1_aae02 0 = .ok (.getstatic 38, 3) := by decide +kernel
theorem dJ0_isLatin1_aae02_3 : decode cJ0_isLatin1_aae02 3 = .ok (.ifCond .eq 14, 3) := by decide +kernel
theorem dJ0_isLatin1_aae02_6 : decode cJ0_isLatin1_aae02 6 = .ok (.aload_n 0, 1) := by decide +kernel
theorem dJ0_isLatin1_aae02_7 : decode cJ0_isLatin1_aae02 7 = .ok (.getfield 15, 3) := by decide +kernel
theorem dJ0_isLatin1_aae02_10 : decode cJ0_isLatin1_aae02 10 = .ok (.ifCond .ne 7, 3) := by decide +kernel
theorem dJ0_isLatin1_aae02_13 : decode cJ0_isLatin1_aae02 13 = .ok (.iconst 1, 1) := by decide +kernel
theorem dJ0_isLatin1_aae02_14 : decode cJ0_isLatin1_aae02 14 = .ok (.goto 4, 3) := by decide +kernel
theorem dJ0_isLatin1_aae02_17 : decode cJ0_isLatin1_aae02 17 = .ok (.iconst 0, 1) := by decide +kernel
theorem dJ0_isLatin1_aae02_18 : decode cJ0_isLatin1_aae02 18 = .ok (.ireturn, 1) := by decide +kernel
theorem dJ0_checkIndex_df160_0 : decode cJ0_checkIndex_df160 0 = .ok (.iload_n 0, 1) := by decide +kernel
theorem dJ0_checkIndex_df160_1 : decode cJ0_checkIndex_df160 1 = .ok (.iload_n 1, 1) := by decide +kernel
theorem dJ0_checkIndex_df160_2 : decode cJ0_checkIndex_df160 2 = .ok (.getstatic 1053, 3) := by decide +kernel
theorem dJ0_checkIndex_df160_5 : decode cJ0_checkIndex_df160 5 = .ok (.invokestatic 1059, 3) := by decide +kernel
theorem dJ0_checkIndex_df160_8 : decode cJ0_checkIndex_df160 8 = .ok (.pop, 1) := by decide +kernel
theorem dJ0_checkIndex_df160_9 : decode cJ0_checkIndex_df160 9 = .ok (.return_, 1) := by decide +kernel
theorem dJ1_charAt_3b067_0 : decode cJ1_charAt_3b067 0 = .ok (.iload_n 1, 1) := by decide +kernel
theorem dJ1_charAt_3b067_1 : decode cJ1_charAt_3b067 1 = .ok (.aload_n 0, 1) := by decide +kernel
theorem dJ1_charAt_3b067_2 : decode cJ1_charAt_3b067 2 = .ok (.arraylength, 1) := by decide +kernel
theorem dJ1_charAt_3b067_3 : decode cJ1_charAt_3b067 3 = .ok (.invokestatic 9, 3) := by decide +kernel
theorem dJ1_charAt_3b067_6 : decode cJ1_charAt_3b067 6 = .ok (.aload_n 0, 1) := by decide +kernel
theorem dJ1_charAt_3b067_7 : decode cJ1_charAt_3b067 7 = .ok (.iload_n 1, 1) := by decide +kernel
theorem dJ1_charAt_3b067_8 : decode cJ1_charAt_3b067 8 = .ok (.baload, 1) := by decide +kernel
theorem dJ1_charAt_3b067_9 : decode cJ1_charAt_3b067 9 = .ok (.sipush 255, 3) := by decide +kernel
theorem dJ1_charAt_3b067_12 : decode cJ1_charAt_3b067 12 = .ok (.iand, 1) := by decide +kernel
theorem dJ1_charAt_3b067_13 : decode cJ1_charAt_3b067 13 = .ok (.i2c, 1) := by decide +kernel
theorem dJ1_charAt_3b067_14 : decode cJ1_charAt_3b067 14 = .ok (.ireturn, 1) := by decide +kernel
theorem dJ3_checkIndex_8e157_0 : decode cJ3_checkIndex_8e157 0 = .ok (.iload_n 0, 1) := by decide +kernel
theorem dJ3_checkIndex_8e157_1 : decode cJ3_checkIndex_8e157 1 = .ok (.ifCond .lt 8, 3) := by decide +kernel
theorem dJ3_checkIndex_8e157_4 : decode cJ3_checkIndex_8e157 4 = .ok (.iload_n 0, 1) := by decide +kernel
theorem dJ3_checkIndex_8e157_5 : decode cJ3_checkIndex_8e157 5 = .ok (.iload_n 1, 1) := by decide +kernel
theorem dJ3_checkIndex_8e157_6 : decode cJ3_checkIndex_8e157 6 = .ok (.if_icmp .lt 10, 3) := by decide +kernel
theorem dJ3_checkIndex_8e157_9 : decode cJ3_checkIndex_8e157 9 = .ok (.aload_n 2, 1) := by decide +kernel
theorem dJ3_checkIndex_8e157_10 : decode cJ3_checkIndex_8e157 10 = .ok (.iload_n 0, 1) := by decide +kernel
theorem dJ3_checkIndex_8e157_11 : decode cJ3_checkIndex_8e157 11 = .ok (.iload_n 1, 1) := by decide +kernel
theorem dJ3_checkIndex_8e157_12 : decode cJ3_checkIndex_8e157 12 = .ok (.invokestatic 95, 3) := by decide +kernel
theorem dJ3_checkIndex_8e157_15 : decode cJ3_checkIndex_8e157 15 = .ok (.athrow, 1) := by decide +kernel
theorem dJ3_checkIndex_8e157_16 : decode cJ3_checkIndex_8e157 16 = .ok (.iload_n 0, 1) := by decide +kernel
theorem dJ3_checkIndex_8e157_17 : decode cJ3_checkIndex_8e157 17 = .ok (.ireturn, 1) := by decide +kernel
