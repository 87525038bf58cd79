theorem dX8_set_8 : decode cX8_set 8 = .ok (.ifCond .ne 6, 3) := by decide +kernel
theorem dX8_set_11 : decode cX8_set 11 = .ok (.ldc 86, 2) := by decide +kernel
theorem dX8_set_13 : decode cX8_set 13 = .ok (.ireturn, 1) := by decide +kernel
theorem dX8_set_14 : decode cX8_set 14 = .ok (.aload_n 0, 1) := by decide +kernel
theorem dX8_set_15 : decode cX8_set 15 = .ok (.getfield 10, 3) := by decide +kernel
theorem dX8_set_18 : decode cX8_set 18 = .ok (.iload_n 1, 1) := by decide +kernel
theorem dX8_set_19 : decode cX8_set 19 = .ok (.invokevirtual 98, 3) := by decide +kernel
theorem dX8_set_22 : decode cX8_set 22 = .ok (.ifCond .eq 9, 3) := by decide +kernel
theorem dX8_set_25 : decode cX8_set 25 = .ok (.aload_n 0, 1) := by decide +kernel
theorem dX8_set_26 : decode cX8_set 26 = .ok (.iconst 1, 1) := by decide +kernel
theorem dX8_set_27 : decode cX8_set 27 = .ok (.invokevirtual 87, 3) := by decide +kernel
theorem dX8_set_30 : decode cX8_set 30 = .ok (.ireturn, 1) := by decide +kernel
theorem dX8_set_31 : decode cX8_set 31 = .ok (.iload_n 2, 1) := by decide +kernel
theorem dX8_set_32 : decode cX8_set 32 = .ok (.ifCond .lt 15, 3) := by decide +kernel
theorem dX8_set_35 : decode cX8_set 35 = .ok (.iload_n 2, 1) := by decide +kernel
theorem dX8_set_36 : decode cX8_set 36 = .ok (.aload_n 0, 1) := by decide +kernel
theorem dX8_set_37 : decode cX8_set 37 = .ok (.getfield 10, 3) := by decide +kernel
theorem dX8_set_40 : decode cX8_set 40 = .ok (.iload_n 1, 1) := by decide +kernel
theorem dX8_set_41 : decode cX8_set 41 = .ok (.invokevirtual 101, 3) := by decide +kernel
theorem dX8_set_44 : decode cX8_set 44 = .ok (.if_icmp .lt 9, 3) := by decide +kernel
theorem dX8_set_47 : decode cX8_set 47 = .ok (.aload_n 0, 1) := by decide +kernel
theorem dX8_set_48 : decode cX8_set 48 = .ok (.iconst 2, 1) := by decide +kernel
theorem dX8_set_49 : decode cX8_set 49 = .ok (.invokevirtual 87, 3) := by decide +kernel
theorem dX8_set_52 : decode cX8_set 52 = .ok (.ireturn, 1) := by decide +kernel
theorem dX8_set_53 : decode cX8_set 53 = .ok (.aload_n 0, 1) := by decide +kernel
theorem dX8_set_54 : decode cX8_set 54 = .ok (.aload_n 0, 1) := by decide +kernel
theorem dX8_set_55 : decode cX8_set 55 = .ok (.getfield 10, 3) := by decide +kernel
theorem dX8_set_58 : decode cX8_set 58 = .ok (.iload_n 1, 1) := by decide +kernel
theorem dX8_set_59 : decode cX8_set 59 = .ok (.iload_n 2, 1) := by decide +kernel
theorem dX8_set_60 : decode cX8_set 60 = .ok (.iload_n 3, 1) := by decide +kernel
theorem dX8_set_61 : decode cX8_set 61 = .ok (.invokevirtual 104, 3) := by decide +kernel
theorem dX8_set_64 : decode cX8_set 64 = .ok (.invokevirtual 95, 3) := by decide +kernel
theorem dX8_set_67 : decode cX8_set 67 = .ok (.ireturn, 1) := by decide +kernel
theorem dX8_copy_0 : decode cX8_copy 0 = .ok (.aload_n 0, 1) := by decide +kernel
theorem dX8_copy_1 : decode cX8_copy 1 = .ok (.getfield 10, 3) := by decide +kernel
theorem dX8_copy_4 : decode cX8_copy 4 = .ok (.iload_n 1, 1) := by decide +kernel
theorem dX8_copy_5 : decode cX8_copy 5 = .ok (.invokevirtual 82, 3) := by decide +kernel
theorem dX8_copy_8 : decode cX8_copy 8 = .ok (.ifCond .eq 14, 3) := by decide +kernel
theorem dX8_copy_11 : decode cX8_copy 11 = .ok (.aload_n 0, 1) := by decide +kernel
theorem dX8_copy_12 : decode cX8_copy 12 = .ok (.getfield 10, 3) := by decide +kernel
theorem dX8_copy_15 : decode cX8_copy 15 = .ok (.iload_n 3, 1) := by decide +kernel
theorem dX8_copy_16 : decode cX8_copy 16 = .ok (.invokevirtual 82, 3) := by decide +kernel
theorem dX8_copy_19 : decode cX8_copy 19 = .ok (.ifCond .ne 6, 3) := by decide +kernel
theorem dX8_copy_22 : decode cX8_copy 22 = .ok (.ldc 86, 2) := by decide +kernel
theorem dX8_copy_24 : decode cX8_copy 24 = .ok (.ireturn, 1) := by decide +kernel
theorem dX8_copy_25 : decode cX8_copy 25 = .ok (.aload_n 0, 1) := by decide +kernel
theorem dX8_copy_26 : decode cX8_copy 26 = .ok (.getfield 10, 3) := by decide +kernel
theorem dX8_copy_29 : decode cX8_copy 29 = .ok (.iload_n 1, 1) := by decide +kernel
theorem dX8_copy_30 : decode cX8_copy 30 = .ok (.invokevirtual 98, 3) := by decide +kernel
theorem dX8_copy_33 : decode cX8_copy 33 = .ok (.ifCond .ne 14, 3) := by decide +kernel
theorem dX8_copy_36 : decode cX8_copy 36 = .ok (.aload_n 0, 1) := by decide +kernel
theorem dX8_copy_37 : decode cX8_copy 37 = .ok (.getfield 10, 3) := by decide +kernel
theorem dX8_copy_40 : decode cX8_copy 40 = .ok (.iload_n 3, 1) := by decide +kernel
theorem dX8_copy_41 : decode cX8_copy 41 = .ok (.invokevirtual 98, 3) := by decide +kernel
theorem dX8_copy_44 : decode cX8_copy 44 = .ok (.ifCond .eq 9, 3) := by decide +kernel
theorem dX8_copy_47 : decode cX8_copy 47 = .ok (.aload_n 0, 1) := by decide +kernel
theorem dX8_copy_48 : decode cX8_copy 48 = .ok (.iconst 1, 1) := by decide +kernel
theorem dX8_copy_49 : decode cX8_copy 49 = .ok (.invokevirtual 87, 3) := by decide +kernel
theorem dX8_copy_52 : decode cX8_copy 52 = .ok (.ireturn, 1) := by decide +kernel
theorem dX8_copy_53 : decode cX8_copy 53 = .ok (.aload_n 0, 1) := by decide +kernel
theorem dX8_copy_54 : decode cX8_copy 54 = .ok (.getfield 10, 3) := by decide +kernel
theorem dX8_copy_57 : decode cX8_copy 57 = .ok (.iload_n 1, 1) := by decide +kernel
theorem dX8_copy_58 : decode cX8_copy 58 = .ok (.invokevirtual 108, 3) := by decide +kernel
theorem dX8_copy_61 : decode cX8_copy 61 = .ok (.aload_n 0, 1) := by decide +kernel
theorem dX8_copy_62 : decode cX8_copy 62 = .ok (.getfield 10, 3) := by decide +kernel
theorem dX8_copy_65 : decode cX8_copy 65 = .ok (.iload_n 3, 1) := by decide +kernel
theorem dX8_copy_66 : decode cX8_copy 66 = .ok (.invokevirtual 108, 3) := by decide +kernel
theorem dX8_copy_69 : decode cX8_copy 69 = .ok (.if_icmp .eq 9, 3) := by decide +kernel
theorem dX8_copy_72 : decode cX8_copy 72 = .ok (.aload_n 0, 1) := by decide +kernel
theorem dX8_copy_73 : decode cX8_copy 73 = .ok (.iconst 5, 1) := by decide +kernel
theorem dX8_copy_74 : decode cX8_copy 74 = .ok (.invokevirtual 87, 3) := by decide +kernel
theorem dX8_copy_77 : decode cX8_copy 77 = .ok (.ireturn, 1) := by decide +kernel
theorem dX8_copy_78 : decode cX8_copy 78 = .ok (.aload_n 0, 1) := by decide +kernel
theorem dX8_copy_79 : decode cX8_copy 79 = .ok (.getfield 10, 3) := by decide +kernel
theorem dX8_copy_82 : decode cX8_copy 82 = .ok (.iload_n 1, 1) := by decide +kernel
theorem dX8_copy_83 : decode cX8_copy 83 = .ok (.iload_n 2, 1) := by decide +kernel
theorem dX8_copy_84 : decode cX8_copy 84 = .ok (.iload 5, 2) := by decide +kernel
theorem dX8_copy_86 : decode cX8_copy 86 = .ok (.invokevirtual 111, 3) := by decide +kernel
theorem dX8_copy_89 : decode cX8_copy 89 = .ok (.ifCond .eq 18, 3) := by decide +kernel
theorem dX8_copy_92 : decode cX8_copy 92 = .ok (.aload_n 0, 1) := by decide +kernel
theorem dX8_copy_93 : decode cX8_copy 93 = .ok (.getfield 10, 3) := by decide +kernel
theorem dX8_copy_96 : decode cX8_copy 96 = .ok (.iload_n 3, 1) := by decide +kernel
theorem dX8_copy_97 : decode cX8_copy 97 = .ok (.iload 4, 2) := by decide +kernel
theorem dX8_copy_99 : decode cX8_copy 99 = .ok (.iload 5, 2) := by decide +kernel
theorem dX8_copy_101 : decode cX8_copy 101 = .ok (.invokevirtual 111, 3) := by decide +kernel
theorem dX8_copy_104 : decode cX8_copy 104 = .ok (.ifCond .ne 9, 3) := by decide +kernel
theorem dX8_copy_107 : decode cX8_copy 107 = .ok (.aload_n 0, 1) := by decide +kernel
theorem dX8_copy_108 : decode cX8_copy 108 = .ok (.iconst 2, 1) := by decide +kernel
theorem dX8_copy_109 : decode cX8_copy 109 = .ok (.invokevirtual 87, 3) := by decide +kernel
theorem dX8_copy_112 : decode cX8_copy 112 = .ok (.ireturn, 1) := by decide +kernel
theorem dX8_copy_113 : decode cX8_copy 113 = .ok (.aload_n 0, 1) := by decide +kernel
theorem dX8_copy_114 : decode cX8_copy 114 = .ok (.getfield 10, 3) := by decide +kernel
theorem dX8_copy_117 : decode cX8_copy 117 = .ok (.iload_n 1, 1) := by decide +kernel
theorem dX8_copy_118 : decode cX8_copy 118 = .ok (.iload_n 2, 1) := by decide +kernel
theorem dX8_copy_119 : decode cX8_copy 119 = .ok (.iload_n 3, 1) := by decide +kernel
theorem dX8_copy_120 : decode cX8_copy 120 = .ok (.iload 4, 2) := by decide +kernel
theorem dX8_copy_122 : decode cX8_copy 122 = .ok (.iload 5, 2) := by decide +kernel
theorem dX8_copy_124 : decode cX8_copy 124 = .ok (.invokevirtual 115, 3) := by decide +kernel
theorem dX8_copy_127 : decode cX8_copy 127 = .ok (.aload_n 0, 1) := by decide +kernel
theorem dX8_copy_128 : decode cX8_copy 128 = .ok (.iload 5, 2) := by decide +kernel
theorem dX8_copy_130 : decode cX8_copy 130 = .ok (.invokevirtual 95, 3) := by decide +kernel
theorem dX8_copy_133 : decode cX8_copy 133 = .ok (.ireturn, 1) := by decide +kernel
theorem dX8_drop_0 : decode cX8_drop 0 = .ok (.aload_n 0, 1) := by decide +kernel
theorem dX8_drop_1 : decode cX8_drop 1 = .ok (.getfield 10, 3) := by decide +kernel
theorem dX8_drop_4 : decode cX8_drop 4 = .ok (.iload_n 1, 1) := by decide +kernel
theorem dX8_drop_5 : decode cX8_drop 5 = .ok (.invokevirtual 82, 3) := by decide +kernel
theorem dX8_drop_8 : decode cX8_drop 8 = .ok (.ifCond .ne 6, 3) := by decide +kernel
theorem dX8_drop_11 : decode cX8_drop 11 = .ok (.ldc 86, 2) := by decide +kernel
theorem dX8_drop_13 : decode cX8_drop 13 = .ok (.ireturn, 1) := by decide +kernel
theorem dX8_drop_14 : decode cX8_drop 14 = .ok (.aload_n 0, 1) := by decide +kernel
theorem dX8_drop_15 : decode cX8_drop 15 = .ok (.getfield 10, 3) := by decide +kernel
theorem dX8_drop_18 : decode cX8_drop 18 = .ok (.iload_n 1, 1) := by decide +kernel
theorem dX8_drop_19 : decode cX8_drop 19 = .ok (.invokevirtual 98, 3) := by decide +kernel
theorem dX8_drop_22 : decode cX8_drop 22 = .ok (.ifCond .eq 9, 3) := by decide +kernel
theorem dX8_drop_25 : decode cX8_drop 25 = .ok (.aload_n 0, 1) := by decide +kernel
theorem dX8_drop_26 : decode cX8_drop 26 = .ok (.iconst 1, 1) := by decide +kernel
theorem dX8_drop_27 : decode cX8_drop 27 = .ok (.invokevirtual 87, 3) := by decide +kernel
theorem dX8_drop_30 : decode cX8_drop 30 = .ok (.ireturn, 1) := by decide +kernel
theorem dX8_drop_31 : decode cX8_drop 31 = .ok (.aload_n 0, 1) := by decide +kernel
theorem dX8_drop_32 : decode cX8_drop 32 = .ok (.getfield 10, 3) := by decide +kernel
theorem dX8_drop_35 : decode cX8_drop 35 = .ok (.iload_n 1, 1) := by decide +kernel
theorem dX8_drop_36 : decode cX8_drop 36 = .ok (.invokevirtual 101, 3) := by decide +kernel
theorem dX8_drop_39 : decode cX8_drop 39 = .ok (.istore_n 2, 1) := by decide +kernel
theorem dX8_drop_40 : decode cX8_drop 40 = .ok (.aload_n 0, 1) := by decide +kernel
theorem dX8_drop_41 : decode cX8_drop 41 = .ok (.getfield 10, 3) := by decide +kernel
theorem dX8_drop_44 : decode cX8_drop 44 = .ok (.iload_n 1, 1) := by decide +kernel
theorem dX8_drop_45 : decode cX8_drop 45 = .ok (.invokevirtual 119, 3) := by decide +kernel
theorem dX8_drop_48 : decode cX8_drop 48 = .ok (.aload_n 0, 1) := by decide +kernel
theorem dX8_drop_49 : decode cX8_drop 49 = .ok (.iload_n 2, 1) := by decide +kernel
theorem dX8_drop_50 : decode cX8_drop 50 = .ok (.invokevirtual 95, 3) := by decide +kernel
theorem dX8_drop_53 : decode cX8_drop 53 = .ok (.ireturn, 1) := by decide +kernel
theorem dX8_feed_0 : decode cX8_feed 0 = .ok (.iload_n 3, 1) := by decide +kernel
theorem dX8_feed_1 : decode cX8_feed 1 = .ok (.iconst 1, 1) := by decide +kernel
theorem dX8_feed_2 : decode cX8_feed 2 = .ok (.if_icmp .lt 9, 3) := by decide +kernel
theorem dX8_feed_5 : decode cX8_feed 5 = .ok (.iload_n 3, 1) := by decide +kernel
theorem dX8_feed_6 : decode cX8_feed 6 = .ok (.bipush 8, 2) := by decide +kernel
theorem dX8_feed_8 : decode cX8_feed 8 = .ok (.if_icmp .le 6, 3) := by decide +kernel
theorem dX8_feed_11 : decode cX8_feed 11 = .ok (.ldc 86, 2) := by decide +kernel
theorem dX8_feed_13 : decode cX8_feed 13 = .ok (.ireturn, 1) := by decide +kernel
theorem dX8_feed_14 : decode cX8_feed 14 = .ok (.aload_n 0, 1) := by decide +kernel
theorem dX8_feed_15 : decode cX8_feed 15 = .ok (.getfield 19, 3) := by decide +kernel
theorem dX8_feed_18 : decode cX8_feed 18 = .ok (.iload_n 3, 1) := by decide +kernel
theorem dX8_feed_19 : decode cX8_feed 19 = .ok (.invokevirtual 123, 3) := by decide +kernel
theorem dX8_feed_22 : decode cX8_feed 22 = .ok (.ifCond .ne 6, 3) := by decide +kernel
theorem dX8_feed_25 : decode cX8_feed 25 = .ok (.ldc 126, 2) := by decide +kernel
theorem dX8_feed_27 : decode cX8_feed 27 = .ok (.ireturn, 1) := by decide +kernel
theorem dX8_feed_28 : decode cX8_feed 28 = .ok (.aload_n 0, 1) := by decide +kernel
theorem dX8_feed_29 : decode cX8_feed 29 = .ok (.getfield 19, 3) := by decide +kernel
theorem dX8_feed_32 : decode cX8_feed 32 = .ok (.lload_n 1, 1) := by decide +kernel
theorem dX8_feed_33 : decode cX8_feed 33 = .ok (.iload_n 3, 1) := by decide +kernel
theorem dX8_feed_34 : decode cX8_feed 34 = .ok (.invokevirtual 127, 3) := by decide +kernel
theorem dX8_feed_37 : decode cX8_feed 37 = .ok (.ireturn, 1) := by decide +kernel
theorem dX8_stair_0 : decode cX8_stair 0 = .ok (.aload_n 0, 1) := by decide +kernel
theorem dX8_stair_1 : decode cX8_stair 1 = .ok (.getfield 19, 3) := by decide +kernel
theorem dX8_stair_4 : decode cX8_stair 4 = .ok (.aload_n 0, 1) := by decide +kernel
theorem dX8_stair_5 : decode cX8_stair 5 = .ok (.getfield 30, 3) := by decide +kernel
theorem dX8_stair_8 : decode cX8_stair 8 = .ok (.invokevirtual 131, 3) := by decide +kernel
theorem dX8_stair_11 : decode cX8_stair 11 = .ok (.istore_n 1, 1) := by decide +kernel
theorem dX8_stair_12 : decode cX8_stair 12 = .ok (.iload_n 1, 1) := by decide +kernel
theorem dX8_stair_13 : decode cX8_stair 13 = .ok (.ifCond .eq 19, 3) := by decide +kernel
theorem dX8_stair_16 : decode cX8_stair 16 = .ok (.aload_n 0, 1) := by decide +kernel
theorem dX8_stair_17 : decode cX8_stair 17 = .ok (.iload_n 1, 1) := by decide +kernel
theorem dX8_stair_18 : decode cX8_stair 18 = .ok (.putfield 75, 3) := by decide +kernel
theorem dX8_stair_21 : decode cX8_stair 21 = .ok (.ldc 135, 2) := by decide +kernel
theorem dX8_stair_23 : decode cX8_stair 23 = .ok (.aload_n 0, 1) := by decide +kernel
theorem dX8_stair_24 : decode cX8_stair 24 = .ok (.getfield 19, 3) := by decide +kernel
theorem dX8_stair_27 : decode cX8_stair 27 = .ok (.invokevirtual 136, 3) := by decide +kernel
theorem dX8_stair_30 : decode cX8_stair 30 = .ok (.isub, 1) := by decide +kernel
theorem dX8_stair_31 : decode cX8_stair 31 = .ok (.ireturn, 1) := by decide +kernel
theorem dX8_stair_32 : decode cX8_stair 32 = .ok (.aload_n 0, 1) := by decide +kernel
theorem dX8_stair_33 : decode cX8_stair 33 = .ok (.aload_n 0, 1) := by decide +kernel
theorem dX8_stair_34 : decode cX8_stair 34 = .ok (.getfield 30, 3) := by decide +kernel
theorem dX8_stair_37 : decode cX8_stair 37 = .ok (.invokevirtual 140, 3) := by decide +kernel
theorem dX8_stair_40 : decode cX8_stair 40 = .ok (.aload_n 0, 1) := by decide +kernel
theorem dX8_stair_41 : decode cX8_stair 41 = .ok (.getfield 26, 3) := by decide +kernel
theorem dX8_stair_44 : decode cX8_stair 44 = .ok (.getfield 144, 3) := by decide +kernel
theorem dX8_stair_47 : decode cX8_stair 47 = .ok (.ireturn, 1) := by decide +kernel
theorem dX8_fault_0 : decode cX8_fault 0 = .ok (.aload_n 0, 1) := by decide +kernel
theorem dX8_fault_1 : decode cX8_fault 1 = .ok (.getfield 75, 3) := by decide +kernel
theorem dX8_fault_4 : decode cX8_fault 4 = .ok (.ireturn, 1) := by decide +kernel
theorem dX8_price_0 : decode cX8_price 0 = .ok (.aload_n 0, 1) := by decide +kernel
theorem dX8_price_1 : decode cX8_price 1 = .ok (.getfield 26, 3) := by decide +kernel
theorem dX8_price_4 : decode cX8_price 4 = .ok (.iload_n 1, 1) := by decide +kernel
theorem dX8_price_5 : decode cX8_price 5 = .ok (.invokevirtual 147, 3) := by decide +kernel
theorem dX8_price_8 : decode cX8_price 8 = .ok (.ifCond .eq 13, 3) := by decide +kernel
theorem dX8_price_11 : decode cX8_price 11 = .ok (.iload_n 2, 1) := by decide +kernel
theorem dX8_price_12 : decode cX8_price 12 = .ok (.ifCond .lt 9, 3) := by decide +kernel
theorem dX8_price_15 : decode cX8_price 15 = .ok (.iload_n 2, 1) := by decide +kernel
theorem dX8_price_16 : decode cX8_price 16 = .ok (.bipush 20, 2) := by decide +kernel
theorem dX8_price_18 : decode cX8_price 18 = .ok (.if_icmp .le 6, 3) := by decide +kernel
theorem dX8_price_21 : decode cX8_price 21 = .ok (.ldc 86, 2) := by decide +kernel
theorem dX8_price_23 : decode cX8_price 23 = .ok (.ireturn, 1) := by decide +kernel
theorem dX8_price_24 : decode cX8_price 24 = .ok (.aload_n 0, 1) := by decide +kernel
theorem dX8_price_25 : decode cX8_price 25 = .ok (.iconst 0, 1) := by decide +kernel
theorem dX8_price_26 : decode cX8_price 26 = .ok (.iload_n 1, 1) := by decide +kernel
theorem dX8_price_27 : decode cX8_price 27 = .ok (.iload_n 2, 1) := by decide +kernel
theorem dX8_price_28 : decode cX8_price 28 = .ok (.invokevirtual 150, 3) := by decide +kernel
theorem dX8_price_31 : decode cX8_price 31 = .ok (.ireturn, 1) := by decide +kernel
theorem dX8_sell_0 : decode cX8_sell 0 = .ok (.aload_n 0, 1) := by decide +kernel
theorem dX8_sell_1 : decode cX8_sell 1 = .ok (.getfield 26, 3) := by decide +kernel
theorem dX8_sell_4 : decode cX8_sell 4 = .ok (.iload_n 1, 1) := by decide +kernel
theorem dX8_sell_5 : decode cX8_sell 5 = .ok (.invokevirtual 147, 3) := by decide +kernel
theorem dX8_sell_8 : decode cX8_sell 8 = .ok (.ifCond .eq 23, 3) := by decide +kernel
theorem dX8_sell_11 : decode cX8_sell 11 = .ok (.iload_n 2, 1) := by decide +kernel
theorem dX8_sell_12 : decode cX8_sell 12 = .ok (.invokestatic 153, 3) := by decide +kernel
theorem dX8_sell_15 : decode cX8_sell 15 = .ok (.ifCond .eq 16, 3) := by decide +kernel
theorem dX8_sell_18 : decode cX8_sell 18 = .ok (.aload_n 0, 1) := by decide +kernel
theorem dX8_sell_19 : decode cX8_sell 19 = .ok (.getfield 26, 3) := by decide +kernel
theorem dX8_sell_22 : decode cX8_sell 22 = .ok (.getfield 156, 3) := by decide +kernel
theorem dX8_sell_25 : decode cX8_sell 25 = .ok (.iload_n 1, 1) := by decide +kernel
theorem dX8_sell_26 : decode cX8_sell 26 = .ok (.iaload, 1) := by decide +kernel
theorem dX8_sell_27 : decode cX8_sell 27 = .ok (.iload_n 2, 1) := by decide +kernel
theorem dX8_sell_28 : decode cX8_sell 28 = .ok (.if_icmp .ne 6, 3) := by decide +kernel
theorem dX8_sell_31 : decode cX8_sell 31 = .ok (.ldc 86, 2) := by decide +kernel
theorem dX8_sell_33 : decode cX8_sell 33 = .ok (.ireturn, 1) := by decide +kernel
theorem dX8_sell_34 : decode cX8_sell 34 = .ok (.aload_n 0, 1) := by decide +kernel
theorem dX8_sell_35 : decode cX8_sell 35 = .ok (.iconst 1, 1) := by decide +kernel
theorem dX8_sell_36 : decode cX8_sell 36 = .ok (.iload_n 1, 1) := by decide +kernel
theorem dX8_sell_37 : decode cX8_sell 37 = .ok (.iload_n 2, 1) := by decide +kernel
theorem dX8_sell_38 : decode cX8_sell 38 = .ok (.invokevirtual 150, 3) := by decide +kernel
theorem dX8_sell_41 : decode cX8_sell 41 = .ok (.ireturn, 1) := by decide +kernel
theorem dX8_crack_0 : decode cX8_crack 0 = .ok (.aload_n 0, 1) := by decide +kernel
theorem dX8_crack_1 : decode cX8_crack 1 = .ok (.getfield 26, 3) := by decide +kernel
theorem dX8_crack_4 : decode cX8_crack 4 = .ok (.iload_n 1, 1) := by decide +kernel
theorem dX8_crack_5 : decode cX8_crack 5 = .ok (.invokevirtual 147, 3) := by decide +kernel
theorem dX8_crack_8 : decode cX8_crack 8 = .ok (.ifCond .eq 12, 3) := by decide +kernel
theorem dX8_crack_11 : decode cX8_crack 11 = .ok (.iload_n 2, 1) := by decide +kernel
theorem dX8_crack_12 : decode cX8_crack 12 = .ok (.ifCond .lt 8, 3) := by decide +kernel
theorem dX8_crack_15 : decode cX8_crack 15 = .ok (.iload_n 2, 1) := by decide +kernel
theorem dX8_crack_16 : decode cX8_crack 16 = .ok (.iconst 1, 1) := by decide +kernel
theorem dX8_crack_17 : decode cX8_crack 17 = .ok (.if_icmp .le 6, 3) := by decide +kernel
theorem dX8_crack_20 : decode cX8_crack 20 = .ok (.ldc 86, 2) := by decide +kernel
theorem dX8_crack_22 : decode cX8_crack 22 = .ok (.ireturn, 1) := by decide +kernel
theorem dX8_crack_23 : decode cX8_crack 23 = .ok (.aload_n 0, 1) := by decide +kernel
theorem dX8_crack_24 : decode cX8_crack 24 = .ok (.iconst 2, 1) := by decide +kernel
theorem dX8_crack_25 : decode cX8_crack 25 = .ok (.iload_n 1, 1) := by decide +kernel
theorem dX8_crack_26 : decode cX8_crack 26 = .ok (.iload_n 2, 1) := by decide +kernel
theorem dX8_crack_27 : decode cX8_crack 27 = .ok (.invokevirtual 150, 3) := by decide +kernel
theorem dX8_crack_30 : decode cX8_crack 30 = .ok (.ireturn, 1) := by decide +kernel
theorem dX8_undo_0 : decode cX8_undo 0 = .ok (.aload_n 0, 1) := by decide +kernel
theorem dX8_undo_1 : decode cX8_undo 1 = .ok (.getfield 43, 3) := by decide +kernel
theorem dX8_undo_4 : decode cX8_undo 4 = .ok (.invokevirtual 160, 3) := by decide +kernel
theorem dX8_undo_7 : decode cX8_undo 7 = .ok (.ifCond .ne 6, 3) := by decide +kernel
theorem dX8_undo_10 : decode cX8_undo 10 = .ok (.ldc 163, 2) := by decide +kernel
theorem dX8_undo_12 : decode cX8_undo 12 = .ok (.ireturn, 1) := by decide +kernel
theorem dX8_undo_13 : decode cX8_undo 13 = .ok (.aload_n 0, 1) := by decide +kernel
theorem dX8_undo_14 : decode cX8_undo 14 = .ok (.getfield 43, 3) := by decide +kernel
theorem dX8_undo_17 : decode cX8_undo 17 = .ok (.aload_n 0, 1) := by decide +kernel
theorem dX8_undo_18 : decode cX8_undo 18 = .ok (.getfield 26, 3) := by decide +kernel
theorem dX8_undo_21 : decode cX8_undo 21 = .ok (.invokevirtual 164, 3) := by decide +kernel
theorem dX8_undo_24 : decode cX8_undo 24 = .ok (.aload_n 0, 1) := by decide +kernel
theorem dX8_undo_25 : decode cX8_undo 25 = .ok (.getfield 64, 3) := by decide +kernel
theorem dX8_undo_28 : decode cX8_undo 28 = .ok (.invokevirtual 167, 3) := by decide +kernel
theorem dX8_undo_31 : decode cX8_undo 31 = .ok (.aload_n 0, 1) := by decide +kernel
theorem dX8_undo_32 : decode cX8_undo 32 = .ok (.getfield 43, 3) := by decide +kernel
theorem dX8_undo_35 : decode cX8_undo 35 = .ok (.invokevirtual 160, 3) := by decide +kernel
theorem dX8_undo_38 : decode cX8_undo 38 = .ok (.ireturn, 1) := by decide +kernel
theorem dX8_step_0 : decode cX8_step 0 = .ok (.aload_n 0, 1) := by decide +kernel
theorem dX8_step_1 : decode cX8_step 1 = .ok (.getfield 26, 3) := by decide +kernel
theorem dX8_step_4 : decode cX8_step 4 = .ok (.iload_n 1, 1) := by decide +kernel
theorem dX8_step_5 : decode cX8_step 5 = .ok (.invokevirtual 147, 3) := by decide +kernel
theorem dX8_step_8 : decode cX8_step 8 = .ok (.ifCond .ne 6, 3) := by decide +kernel
theorem dX8_step_11 : decode cX8_step 11 = .ok (.ldc 86, 2) := by decide +kernel
theorem dX8_step_13 : decode cX8_step 13 = .ok (.ireturn, 1) := by decide +kernel
theorem dX8_step_14 : decode cX8_step 14 = .ok (.iload_n 2, 1) := by decide +kernel
theorem dX8_step_15 : decode cX8_step 15 = .ok (.tableswitch 55 0 2 #[25, 35, 45], 25) := by decide +kernel
theorem dX8_step_40 : decode cX8_step 40 = .ok (.aload_n 0, 1) := by decide +kernel
theorem dX8_step_41 : decode cX8_step 41 = .ok (.getfield 26, 3) := by decide +kernel
theorem dX8_step_44 : decode cX8_step 44 = .ok (.getfield 156, 3) := by decide +kernel
theorem dX8_step_47 : decode cX8_step 47 = .ok (.iload_n 1, 1) := by decide +kernel
theorem dX8_step_48 : decode cX8_step 48 = .ok (.iaload, 1) := by decide +kernel
theorem dX8_step_49 : decode cX8_step 49 = .ok (.ireturn, 1) := by decide +kernel
theorem dX8_step_50 : decode cX8_step 50 = .ok (.aload_n 0, 1) := by decide +kernel
theorem dX8_step_51 : decode cX8_step 51 = .ok (.getfield 26, 3) := by decide +kernel
theorem dX8_step_54 : decode cX8_step 54 = .ok (.getfield 170, 3) := by decide +kernel
theorem dX8_step_57 : decode cX8_step 57 = .ok (.iload_n 1, 1) := by decide +kernel
theorem dX8_step_58 : decode cX8_step 58 = .ok (.iaload, 1) := by decide +kernel
theorem dX8_step_59 : decode cX8_step 59 = .ok (.ireturn, 1) := by decide +kernel
theorem dX8_step_60 : decode cX8_step 60 = .ok (.aload_n 0, 1) := by decide +kernel
theorem dX8_step_61 : decode cX8_step 61 = .ok (.getfield 26, 3) := by decide +kernel
theorem dX8_step_64 : decode cX8_step 64 = .ok (.getfield 173, 3) := by decide +kernel
theorem dX8_step_67 : decode cX8_step 67 = .ok (.iload_n 1, 1) := by decide +kernel
theorem dX8_step_68 : decode cX8_step 68 = .ok (.iaload, 1) := by decide +kernel
theorem dX8_step_69 : decode cX8_step 69 = .ok (.ireturn, 1) := by decide +kernel
theorem dX8_step_70 : decode cX8_step 70 = .ok (.ldc 86, 2) := by decide +kernel
theorem dX8_step_72 : decode cX8_step 72 = .ok (.ireturn, 1) := by decide +kernel
theorem dX8_way_0 : decode cX8_way 0 = .ok (.aload_n 0, 1) := by decide +kernel
theorem dX8_way_1 : decode cX8_way 1 = .ok (.getfield 26, 3) := by decide +kernel
theorem dX8_way_4 : decode cX8_way 4 = .ok (.iload_n 1, 1) := by decide +kernel
theorem dX8_way_5 : decode cX8_way 5 = .ok (.invokevirtual 176, 3) := by decide +kernel
theorem dX8_way_8 : decode cX8_way 8 = .ok (.ifCond .eq 9, 3) := by decide +kernel
theorem dX8_way_11 : decode cX8_way 11 = .ok (.iload_n 2, 1) := by decide +kernel
theorem dX8_way_12 : decode cX8_way 12 = .ok (.bipush (-3), 2) := by decide +kernel
theorem dX8_way_14 : decode cX8_way 14 = .ok (.if_icmp .ge 6, 3) := by decide +kernel
theorem dX8_way_17 : decode cX8_way 17 = .ok (.ldc 86, 2) := by decide +kernel
theorem dX8_way_19 : decode cX8_way 19 = .ok (.ireturn, 1) := by decide +kernel
theorem dX8_way_20 : decode cX8_way 20 = .ok (.aload_n 0, 1) := by decide +kernel
theorem dX8_way_21 : decode cX8_way 21 = .ok (.getfield 50, 3) := by decide +kernel
theorem dX8_way_24 : decode cX8_way 24 = .ok (.aload_n 0, 1) := by decide +kernel
theorem dX8_way_25 : decode cX8_way 25 = .ok (.getfield 26, 3) := by decide +kernel
theorem dX8_way_28 : decode cX8_way 28 = .ok (.aload_n 0, 1) := by decide +kernel
theorem dX8_way_29 : decode cX8_way 29 = .ok (.getfield 26, 3) := by decide +kernel
theorem dX8_way_32 : decode cX8_way 32 = .ok (.getfield 179, 3) := by decide +kernel
theorem dX8_way_35 : decode cX8_way 35 = .ok (.iload_n 1, 1) := by decide +kernel
theorem dX8_way_36 : decode cX8_way 36 = .ok (.iaload, 1) := by decide +kernel
theorem dX8_way_37 : decode cX8_way 37 = .ok (.invokevirtual 182, 3) := by decide +kernel
theorem dX8_way_40 : decode cX8_way 40 = .ok (.iload_n 2, 1) := by decide +kernel
theorem dX8_way_41 : decode cX8_way 41 = .ok (.bipush (-3), 2) := by decide +kernel
theorem dX8_way_43 : decode cX8_way 43 = .ok (.if_icmp .ne 24, 3) := by decide +kernel
theorem dX8_way_46 : decode cX8_way 46 = .ok (.aload_n 0, 1) := by decide +kernel
theorem dX8_way_47 : decode cX8_way 47 = .ok (.getfield 50, 3) := by decide +kernel
theorem dX8_way_50 : decode cX8_way 50 = .ok (.aload_n 0, 1) := by decide +kernel
theorem dX8_way_51 : decode cX8_way 51 = .ok (.getfield 26, 3) := by decide +kernel
theorem dX8_way_54 : decode cX8_way 54 = .ok (.iload_n 1, 1) := by decide +kernel
theorem dX8_way_55 : decode cX8_way 55 = .ok (.invokevirtual 186, 3) := by decide +kernel
theorem dX8_way_58 : decode cX8_way 58 = .ok (.ifCond .eq 7, 3) := by decide +kernel
theorem dX8_way_61 : decode cX8_way 61 = .ok (.iconst 1, 1) := by decide +kernel
theorem dX8_way_62 : decode cX8_way 62 = .ok (.goto 4, 3) := by decide +kernel
theorem dX8_way_65 : decode cX8_way 65 = .ok (.iconst 0, 1) := by decide +kernel
theorem dX8_way_66 : decode cX8_way 66 = .ok (.ireturn, 1) := by decide +kernel
theorem dX8_way_67 : decode cX8_way 67 = .ok (.iload_n 2, 1) := by decide +kernel
theorem dX8_way_68 : decode cX8_way 68 = .ok (.bipush (-2), 2) := by decide +kernel
theorem dX8_way_70 : decode cX8_way 70 = .ok (.if_icmp .ne 31, 3) := by decide +kernel
theorem dX8_way_73 : decode cX8_way 73 = .ok (.aload_n 0, 1) := by decide +kernel
theorem dX8_way_74 : decode cX8_way 74 = .ok (.getfield 50, 3) := by decide +kernel
theorem dX8_way_77 : decode cX8_way 77 = .ok (.invokevirtual 190, 3) := by decide +kernel
theorem dX8_way_80 : decode cX8_way 80 = .ok (.ifCond .eq 18, 3) := by decide +kernel
theorem dX8_way_83 : decode cX8_way 83 = .ok (.aload_n 0, 1) := by decide +kernel
theorem dX8_way_84 : decode cX8_way 84 = .ok (.getfield 50, 3) := by decide +kernel
theorem dX8_way_87 : decode cX8_way 87 = .ok (.aload_n 0, 1) := by decide +kernel
theorem dX8_way_88 : decode cX8_way 88 = .ok (.getfield 26, 3) := by decide +kernel
theorem dX8_way_91 : decode cX8_way 91 = .ok (.iload_n 1, 1) := by decide +kernel
theorem dX8_way_92 : decode cX8_way 92 = .ok (.invokevirtual 194, 3) := by decide +kernel
theorem dX8_way_95 : decode cX8_way 95 = .ok (.goto 5, 3) := by decide +kernel
theorem dX8_way_98 : decode cX8_way 98 = .ok (.ldc 198, 2) := by decide +kernel
theorem dX8_way_100 : decode cX8_way 100 = .ok (.ireturn, 1) := by decide +kernel
theorem dX8_way_101 : decode cX8_way 101 = .ok (.iload_n 2, 1) := by decide +kernel
theorem dX8_way_102 : decode cX8_way 102 = .ok (.iconst (-1), 1) := by decide +kernel
theorem dX8_way_103 : decode cX8_way 103 = .ok (.if_icmp .ne 13, 3) := by decide +kernel
theorem dX8_way_106 : decode cX8_way 106 = .ok (.aload_n 0, 1) := by decide +kernel
theorem dX8_way_107 : decode cX8_way 107 = .ok (.getfield 50, 3) := by decide +kernel
theorem dX8_way_110 : decode cX8_way 110 = .ok (.invokevirtual 199, 3) := by decide +kernel
theorem dX8_way_113 : decode cX8_way 113 = .ok (.goto 11, 3) := by decide +kernel
theorem dX8_way_116 : decode cX8_way 116 = .ok (.aload_n 0, 1) := by decide +kernel
theorem dX8_way_117 : decode cX8_way 117 = .ok (.getfield 50, 3) := by decide +kernel
theorem dX8_way_120 : decode cX8_way 120 = .ok (.iload_n 2, 1) := by decide +kernel
theorem dX8_way_121 : decode cX8_way 121 = .ok (.invokevirtual 202, 3) := by decide +kernel
theorem dX8_way_124 : decode cX8_way 124 = .ok (.ireturn, 1) := by decide +kernel
theorem dX8_takes_0 : decode cX8_takes 0 = .ok (.aload_n 0, 1) := by decide +kernel
theorem dX8_takes_1 : decode cX8_takes 1 = .ok (.getfield 26, 3) := by decide +kernel
theorem dX8_takes_4 : decode cX8_takes 4 = .ok (.invokevirtual 205, 3) := by decide +kernel
theorem dX8_takes_7 : decode cX8_takes 7 = .ok (.ifCond .eq 6, 3) := by decide +kernel
theorem dX8_takes_10 : decode cX8_takes 10 = .ok (.ldc 163, 2) := by decide +kernel
theorem dX8_takes_12 : decode cX8_takes 12 = .ok (.ireturn, 1) := by decide +kernel
theorem dX8_takes_13 : decode cX8_takes 13 = .ok (.iload_n 1, 1) := by decide +kernel
theorem dX8_takes_14 : decode cX8_takes 14 = .ok (.invokestatic 153, 3) := by decide +kernel
theorem dX8_takes_17 : decode cX8_takes 17 = .ok (.ifCond .ne 6, 3) := by decide +kernel
theorem dX8_takes_20 : decode cX8_takes 20 = .ok (.ldc 86, 2) := by decide +kernel
theorem dX8_takes_22 : decode cX8_takes 22 = .ok (.ireturn, 1) := by decide +kernel
theorem dX8_takes_23 : decode cX8_takes 23 = .ok (.aload_n 0, 1) := by decide +kernel
theorem dX8_takes_24 : decode cX8_takes 24 = .ok (.getfield 57, 3) := by decide +kernel
theorem dX8_takes_27 : decode cX8_takes 27 = .ok (.aload_n 0, 1) := by decide +kernel
theorem dX8_takes_28 : decode cX8_takes 28 = .ok (.getfield 26, 3) := by decide +kernel
theorem dX8_takes_31 : decode cX8_takes 31 = .ok (.iconst 1, 1) := by decide +kernel
theorem dX8_takes_32 : decode cX8_takes 32 = .ok (.iload_n 1, 1) := by decide +kernel
theorem dX8_takes_33 : decode cX8_takes 33 = .ok (.ishl, 1) := by decide +kernel
theorem dX8_takes_34 : decode cX8_takes 34 = .ok (.invokevirtual 208, 3) := by decide +kernel
theorem dX8_takes_37 : decode cX8_takes 37 = .ok (.ireturn, 1) := by decide +kernel
theorem dX8_best_0 : decode cX8_best 0 = .ok (.aload_n 0, 1) := by decide +kernel
theorem dX8_best_1 : decode cX8_best 1 = .ok (.getfield 26, 3) := by decide +kernel
theorem dX8_best_4 : decode cX8_best 4 = .ok (.invokevirtual 205, 3) := by decide +kernel
theorem dX8_best_7 : decode cX8_best 7 = .ok (.ifCond .eq 6, 3) := by decide +kernel
theorem dX8_best_10 : decode cX8_best 10 = .ok (.ldc 163, 2) := by decide +kernel
theorem dX8_best_12 : decode cX8_best 12 = .ok (.ireturn, 1) := by decide +kernel
theorem dX8_best_13 : decode cX8_best 13 = .ok (.iload_n 1, 1) := by decide +kernel
theorem dX8_best_14 : decode cX8_best 14 = .ok (.iconst 1, 1) := by decide +kernel
theorem dX8_best_15 : decode cX8_best 15 = .ok (.if_icmp .lt 18, 3) := by decide +kernel
theorem dX8_best_18 : decode cX8_best 18 = .ok (.iload_n 1, 1) := by decide +kernel
theorem dX8_best_19 : decode cX8_best 19 = .ok (.bipush 31, 2) := by decide +kernel
theorem dX8_best_21 : decode cX8_best 21 = .ok (.if_icmp .gt 12, 3) := by decide +kernel
theorem dX8_best_24 : decode cX8_best 24 = .ok (.iload_n 2, 1) := by decide +kernel
theorem dX8_best_25 : decode cX8_best 25 = .ok (.ifCond .lt 8, 3) := by decide +kernel
theorem dX8_best_28 : decode cX8_best 28 = .ok (.iload_n 2, 1) := by decide +kernel
theorem dX8_best_29 : decode cX8_best 29 = .ok (.iconst 1, 1) := by decide +kernel
theorem dX8_best_30 : decode cX8_best 30 = .ok (.if_icmp .le 6, 3) := by decide +kernel
theorem dX8_best_33 : decode cX8_best 33 = .ok (.ldc 86, 2) := by decide +kernel
theorem dX8_best_35 : decode cX8_best 35 = .ok (.ireturn, 1) := by decide +kernel
theorem dX8_best_36 : decode cX8_best 36 = .ok (.aload_n 0, 1) := by decide +kernel
theorem dX8_best_37 : decode cX8_best 37 = .ok (.getfield 26, 3) := by decide +kernel
theorem dX8_best_40 : decode cX8_best 40 = .ok (.iload_n 1, 1) := by decide +kernel
theorem dX8_best_41 : decode cX8_best 41 = .ok (.invokevirtual 211, 3) := by decide +kernel
theorem dX8_best_44 : decode cX8_best 44 = .ok (.ifCond .ne 6, 3) := by decide +kernel
theorem dX8_best_47 : decode cX8_best 47 = .ok (.ldc 198, 2) := by decide +kernel
theorem dX8_best_49 : decode cX8_best 49 = .ok (.ireturn, 1) := by decide +kernel
theorem dX8_best_50 : decode cX8_best 50 = .ok (.aload_n 0, 1) := by decide +kernel
theorem dX8_best_51 : decode cX8_best 51 = .ok (.getfield 33, 3) := by decide +kernel
theorem dX8_best_54 : decode cX8_best 54 = .ok (.aload_n 0, 1) := by decide +kernel
theorem dX8_best_55 : decode cX8_best 55 = .ok (.getfield 26, 3) := by decide +kernel
theorem dX8_best_58 : decode cX8_best 58 = .ok (.invokevirtual 214, 3) := by decide +kernel
theorem dX8_best_61 : decode cX8_best 61 = .ok (.aload_n 0, 1) := by decide +kernel
theorem dX8_best_62 : decode cX8_best 62 = .ok (.getfield 57, 3) := by decide +kernel
theorem dX8_best_65 : decode cX8_best 65 = .ok (.aload_n 0, 1) := by decide +kernel
theorem dX8_best_66 : decode cX8_best 66 = .ok (.getfield 33, 3) := by decide +kernel
theorem dX8_best_69 : decode cX8_best 69 = .ok (.iload_n 1, 1) := by decide +kernel
theorem dX8_best_70 : decode cX8_best 70 = .ok (.invokevirtual 217, 3) := by decide +kernel
theorem dX8_best_73 : decode cX8_best 73 = .ok (.iload_n 2, 1) := by decide +kernel
theorem dX8_best_74 : decode cX8_best 74 = .ok (.ifCond .ne 11, 3) := by decide +kernel
theorem dX8_best_77 : decode cX8_best 77 = .ok (.aload_n 0, 1) := by decide +kernel
theorem dX8_best_78 : decode cX8_best 78 = .ok (.getfield 57, 3) := by decide +kernel
theorem dX8_best_81 : decode cX8_best 81 = .ok (.invokevirtual 220, 3) := by decide +kernel
theorem dX8_best_84 : decode cX8_best 84 = .ok (.ireturn, 1) := by decide +kernel
theorem dX8_best_85 : decode cX8_best 85 = .ok (.iconst 0, 1) := by decide +kernel
theorem dX8_best_86 : decode cX8_best 86 = .ok (.aload_n 0, 1) := by decide +kernel
theorem dX8_best_87 : decode cX8_best 87 = .ok (.getfield 57, 3) := by decide +kernel
theorem dX8_best_90 : decode cX8_best 90 = .ok (.invokevirtual 223, 3) := by decide +kernel
theorem dX8_best_93 : decode cX8_best 93 = .ok (.aload_n 0, 1) := by decide +kernel
theorem dX8_best_94 : decode cX8_best 94 = .ok (.getfield 57, 3) := by decide +kernel
theorem dX8_best_97 : decode cX8_best 97 = .ok (.aload_n 0, 1) := by decide +kernel
theorem dX8_best_98 : decode cX8_best 98 = .ok (.getfield 26, 3) := by decide +kernel
theorem dX8_best_101 : decode cX8_best 101 = .ok (.iload_n 1, 1) := by decide +kernel
theorem dX8_best_102 : decode cX8_best 102 = .ok (.invokevirtual 208, 3) := by decide +kernel
theorem dX8_best_105 : decode cX8_best 105 = .ok (.isub, 1) := by decide +kernel
theorem dX8_best_106 : decode cX8_best 106 = .ok (.invokestatic 226, 3) := by decide +kernel
theorem dX8_best_109 : decode cX8_best 109 = .ok (.ireturn, 1) := by decide +kernel
theorem dX8_turnsOf_0 : decode cX8_turnsOf 0 = .ok (.aload_n 0, 1) := by decide +kernel
theorem dX8_turnsOf_1 : decode cX8_turnsOf 1 = .ok (.getfield 26, 3) := by decide +kernel
theorem dX8_turnsOf_4 : decode cX8_turnsOf 4 = .ok (.invokevirtual 205, 3) := by decide +kernel
theorem dX8_turnsOf_7 : decode cX8_turnsOf 7 = .ok (.ifCond .eq 6, 3) := by decide +kernel
theorem dX8_turnsOf_10 : decode cX8_turnsOf 10 = .ok (.ldc 163, 2) := by decide +kernel
theorem dX8_turnsOf_12 : decode cX8_turnsOf 12 = .ok (.ireturn, 1) := by decide +kernel
theorem dX8_turnsOf_13 : decode cX8_turnsOf 13 = .ok (.iload_n 1, 1) := by decide +kernel
theorem dX8_turnsOf_14 : decode cX8_turnsOf 14 = .ok (.iconst (-1), 1) := by decide +kernel
theorem dX8_turnsOf_15 : decode cX8_turnsOf 15 = .ok (.if_icmp .eq 13, 3) := by decide +kernel
theorem dX8_turnsOf_18 : decode cX8_turnsOf 18 = .ok (.iload_n 1, 1) := by decide +kernel
theorem dX8_turnsOf_19 : decode cX8_turnsOf 19 = .ok (.invokestatic 153, 3) := by decide +kernel
theorem dX8_turnsOf_22 : decode cX8_turnsOf 22 = .ok (.ifCond .ne 6, 3) := by decide +kernel
theorem dX8_turnsOf_25 : decode cX8_turnsOf 25 = .ok (.ldc 86, 2) := by decide +kernel
theorem dX8_turnsOf_27 : decode cX8_turnsOf 27 = .ok (.ireturn, 1) := by decide +kernel
theorem dX8_turnsOf_28 : decode cX8_turnsOf 28 = .ok (.aload_n 0, 1) := by decide +kernel
theorem dX8_turnsOf_29 : decode cX8_turnsOf 29 = .ok (.getfield 64, 3) := by decide +kernel
theorem dX8_turnsOf_32 : decode cX8_turnsOf 32 = .ok (.aload_n 0, 1) := by decide +kernel
theorem dX8_turnsOf_33 : decode cX8_turnsOf 33 = .ok (.getfield 26, 3) := by decide +kernel
theorem dX8_turnsOf_36 : decode cX8_turnsOf 36 = .ok (.aload_n 0, 1) := by decide +kernel
theorem dX8_turnsOf_37 : decode cX8_turnsOf 37 = .ok (.getfield 33, 3) := by decide +kernel
theorem dX8_turnsOf_40 : decode cX8_turnsOf 40 = .ok (.aload_n 0, 1) := by decide +kernel
theorem dX8_turnsOf_41 : decode cX8_turnsOf 41 = .ok (.getfield 57, 3) := by decide +kernel
theorem dX8_turnsOf_44 : decode cX8_turnsOf 44 = .ok (.invokevirtual 232, 3) := by decide +kernel
theorem dX8_turnsOf_47 : decode cX8_turnsOf 47 = .ok (.iload_n 1, 1) := by decide +kernel
theorem dX8_turnsOf_48 : decode cX8_turnsOf 48 = .ok (.iconst (-1), 1) := by decide +kernel
theorem dX8_turnsOf_49 : decode cX8_turnsOf 49 = .ok (.if_icmp .ne 13, 3) := by decide +kernel
theorem dX8_turnsOf_52 : decode cX8_turnsOf 52 = .ok (.aload_n 0, 1) := by decide +kernel
theorem dX8_turnsOf_53 : decode cX8_turnsOf 53 = .ok (.getfield 64, 3) := by decide +kernel
theorem dX8_turnsOf_56 : decode cX8_turnsOf 56 = .ok (.invokevirtual 236, 3) := by decide +kernel
theorem dX8_turnsOf_59 : decode cX8_turnsOf 59 = .ok (.goto 11, 3) := by decide +kernel
theorem dX8_turnsOf_62 : decode cX8_turnsOf 62 = .ok (.aload_n 0, 1) := by decide +kernel
theorem dX8_turnsOf_63 : decode cX8_turnsOf 63 = .ok (.getfield 64, 3) := by decide +kernel
theorem dX8_turnsOf_66 : decode cX8_turnsOf 66 = .ok (.iload_n 1, 1) := by decide +kernel
theorem dX8_turnsOf_67 : decode cX8_turnsOf 67 = .ok (.invokevirtual 239, 3) := by decide +kernel
theorem dX8_turnsOf_70 : decode cX8_turnsOf 70 = .ok (.ireturn, 1) := by decide +kernel
theorem dX8_shares_0 : decode cX8_shares 0 = .ok (.aload_n 0, 1) := by decide +kernel
theorem dX8_shares_1 : decode cX8_shares 1 = .ok (.getfield 26, 3) := by decide +kernel
theorem dX8_shares_4 : decode cX8_shares 4 = .ok (.invokevirtual 205, 3) := by decide +kernel
theorem dX8_shares_7 : decode cX8_shares 7 = .ok (.ifCond .eq 6, 3) := by decide +kernel
theorem dX8_shares_10 : decode cX8_shares 10 = .ok (.ldc 163, 2) := by decide +kernel
theorem dX8_shares_12 : decode cX8_shares 12 = .ok (.ireturn, 1) := by decide +kernel
theorem dX8_shares_13 : decode cX8_shares 13 = .ok (.iload_n 1, 1) := by decide +kernel
theorem dX8_shares_14 : decode cX8_shares 14 = .ok (.invokestatic 153, 3) := by decide +kernel
theorem dX8_shares_17 : decode cX8_shares 17 = .ok (.ifCond .eq 43, 3) := by decide +kernel
theorem dX8_shares_20 : decode cX8_shares 20 = .ok (.iload_n 2, 1) := by decide +kernel
theorem dX8_shares_21 : decode cX8_shares 21 = .ok (.invokestatic 153, 3) := by decide +kernel
theorem dX8_shares_24 : decode cX8_shares 24 = .ok (.ifCond .eq 36, 3) := by decide +kernel
theorem dX8_shares_27 : decode cX8_shares 27 = .ok (.iload_n 3, 1) := by decide +kernel
theorem dX8_shares_28 : decode cX8_shares 28 = .ok (.invokestatic 153, 3) := by decide +kernel
theorem dX8_shares_31 : decode cX8_shares 31 = .ok (.ifCond .eq 29, 3) := by decide +kernel
theorem dX8_shares_34 : decode cX8_shares 34 = .ok (.iload_n 1, 1) := by decide +kernel
theorem dX8_shares_35 : decode cX8_shares 35 = .ok (.iload_n 2, 1) := by decide +kernel
theorem dX8_shares_36 : decode cX8_shares 36 = .ok (.if_icmp .eq 24, 3) := by decide +kernel
theorem dX8_shares_39 : decode cX8_shares 39 = .ok (.iload_n 1, 1) := by decide +kernel
theorem dX8_shares_40 : decode cX8_shares 40 = .ok (.iload_n 3, 1) := by decide +kernel
theorem dX8_shares_41 : decode cX8_shares 41 = .ok (.if_icmp .eq 19, 3) := by decide +kernel
theorem dX8_shares_44 : decode cX8_shares 44 = .ok (.iload_n 2, 1) := by decide +kernel
theorem dX8_shares_45 : decode cX8_shares 45 = .ok (.iload_n 3, 1) := by decide +kernel
theorem dX8_shares_46 : decode cX8_shares 46 = .ok (.if_icmp .eq 14, 3) := by decide +kernel
theorem dX8_shares_49 : decode cX8_shares 49 = .ok (.iload 4, 2) := by decide +kernel
theorem dX8_shares_51 : decode cX8_shares 51 = .ok (.ifCond .lt 9, 3) := by decide +kernel
theorem dX8_shares_54 : decode cX8_shares 54 = .ok (.iload 4, 2) := by decide +kernel
theorem dX8_shares_56 : decode cX8_shares 56 = .ok (.iconst 2, 1) := by decide +kernel
theorem dX8_shares_57 : decode cX8_shares 57 = .ok (.if_icmp .le 6, 3) := by decide +kernel
theorem dX8_shares_60 : decode cX8_shares 60 = .ok (.ldc 86, 2) := by decide +kernel
theorem dX8_shares_62 : decode cX8_shares 62 = .ok (.ireturn, 1) := by decide +kernel
theorem dX8_shares_63 : decode cX8_shares 63 = .ok (.aload_n 0, 1) := by decide +kernel
theorem dX8_shares_64 : decode cX8_shares 64 = .ok (.iconst 1, 1) := by decide +kernel
theorem dX8_shares_65 : decode cX8_shares 65 = .ok (.iload_n 1, 1) := by decide +kernel
theorem dX8_shares_66 : decode cX8_shares 66 = .ok (.ishl, 1) := by decide +kernel
theorem dX8_shares_67 : decode cX8_shares 67 = .ok (.iconst 1, 1) := by decide +kernel
theorem dX8_shares_68 : decode cX8_shares 68 = .ok (.iload_n 2, 1) := by decide +kernel
theorem dX8_shares_69 : decode cX8_shares 69 = .ok (.ishl, 1) := by decide +kernel
theorem dX8_shares_70 : decode cX8_shares 70 = .ok (.iconst 1, 1) := by decide +kernel
theorem dX8_shares_71 : decode cX8_shares 71 = .ok (.iload_n 3, 1) := by decide +kernel
theorem dX8_shares_72 : decode cX8_shares 72 = .ok (.ishl, 1) := by decide +kernel
theorem dX8_shares_73 : decode cX8_shares 73 = .ok (.iload 4, 2) := by decide +kernel
theorem dX8_shares_75 : decode cX8_shares 75 = .ok (.invokevirtual 242, 3) := by decide +kernel
theorem dX8_shares_78 : decode cX8_shares 78 = .ok (.ireturn, 1) := by decide +kernel
theorem dX8_planks_0 : decode cX8_planks 0 = .ok (.aload_n 0, 1) := by decide +kernel
theorem dX8_planks_1 : decode cX8_planks 1 = .ok (.getfield 26, 3) := by decide +kernel
theorem dX8_planks_4 : decode cX8_planks 4 = .ok (.iload_n 1, 1) := by decide +kernel
theorem dX8_planks_5 : decode cX8_planks 5 = .ok (.invokevirtual 176, 3) := by decide +kernel
theorem dX8_planks_8 : decode cX8_planks 8 = .ok (.ifCond .ne 6, 3) := by decide +kernel
theorem dX8_planks_11 : decode cX8_planks 11 = .ok (.ldc 86, 2) := by decide +kernel
theorem dX8_planks_13 : decode cX8_planks 13 = .ok (.ireturn, 1) := by decide +kernel
theorem dX8_planks_14 : decode cX8_planks 14 = .ok (.aload_n 0, 1) := by decide +kernel
theorem dX8_planks_15 : decode cX8_planks 15 = .ok (.getfield 33, 3) := by decide +kernel
theorem dX8_planks_18 : decode cX8_planks 18 = .ok (.aload_n 0, 1) := by decide +kernel
theorem dX8_planks_19 : decode cX8_planks 19 = .ok (.getfield 26, 3) := by decide +kernel
theorem dX8_planks_22 : decode cX8_planks 22 = .ok (.invokevirtual 214, 3) := by decide +kernel
theorem dX8_planks_25 : decode cX8_planks 25 = .ok (.aload_n 0, 1) := by decide +kernel
theorem dX8_planks_26 : decode cX8_planks 26 = .ok (.getfield 33, 3) := by decide +kernel
theorem dX8_planks_29 : decode cX8_planks 29 = .ok (.invokevirtual 246, 3) := by decide +kernel
theorem dX8_planks_32 : decode cX8_planks 32 = .ok (.aload_n 0, 1) := by decide +kernel
theorem dX8_planks_33 : decode cX8_planks 33 = .ok (.getfield 50, 3) := by decide +kernel
theorem dX8_planks_36 : decode cX8_planks 36 = .ok (.aload_n 0, 1) := by decide +kernel
theorem dX8_planks_37 : decode cX8_planks 37 = .ok (.getfield 33, 3) := by decide +kernel
theorem dX8_planks_40 : decode cX8_planks 40 = .ok (.aload_n 0, 1) := by decide +kernel
theorem dX8_planks_41 : decode cX8_planks 41 = .ok (.getfield 33, 3) := by decide +kernel
theorem dX8_planks_44 : decode cX8_planks 44 = .ok (.getfield 179, 3) := by decide +kernel
theorem dX8_planks_47 : decode cX8_planks 47 = .ok (.iload_n 1, 1) := by decide +kernel
theorem dX8_planks_48 : decode cX8_planks 48 = .ok (.iaload, 1) := by decide +kernel
theorem dX8_planks_49 : decode cX8_planks 49 = .ok (.invokevirtual 182, 3) := by decide +kernel
theorem dX8_planks_52 : decode cX8_planks 52 = .ok (.aload_n 0, 1) := by decide +kernel
theorem dX8_planks_53 : decode cX8_planks 53 = .ok (.getfield 50, 3) := by decide +kernel
theorem dX8_planks_56 : decode cX8_planks 56 = .ok (.invokevirtual 190, 3) := by decide +kernel
theorem dX8_planks_59 : decode cX8_planks 59 = .ok (.ifCond .eq 13, 3) := by decide +kernel
theorem dX8_planks_62 : decode cX8_planks 62 = .ok (.aload_n 0, 1) := by decide +kernel
theorem dX8_planks_63 : decode cX8_planks 63 = .ok (.getfield 50, 3) := by decide +kernel
theorem dX8_planks_66 : decode cX8_planks 66 = .ok (.invokevirtual 249, 3) := by decide +kernel
theorem dX8_planks_69 : decode cX8_planks 69 = .ok (.goto 5, 3) := by decide +kernel
theorem dX8_planks_72 : decode cX8_planks 72 = .ok (.ldc 198, 2) := by decide +kernel
theorem dX8_planks_74 : decode cX8_planks 74 = .ok (.ireturn, 1) := by decide +kernel
theorem dX8_mean_0 : decode cX8_mean 0 = .ok (.aload_n 0, 1) := by decide +kernel
theorem dX8_mean_1 : decode cX8_mean 1 = .ok (.getfield 26, 3) := by decide +kernel
theorem dX8_mean_4 : decode cX8_mean 4 = .ok (.invokevirtual 205, 3) := by decide +kernel
theorem dX8_mean_7 : decode cX8_mean 7 = .ok (.ifCond .eq 6, 3) := by decide +kernel
theorem dX8_mean_10 : decode cX8_mean 10 = .ok (.ldc 163, 2) := by decide +kernel
theorem dX8_mean_12 : decode cX8_mean 12 = .ok (.ireturn, 1) := by decide +kernel
theorem dX8_mean_13 : decode cX8_mean 13 = .ok (.iload_n 1, 1) := by decide +kernel
theorem dX8_mean_14 : decode cX8_mean 14 = .ok (.invokestatic 153, 3) := by decide +kernel
theorem dX8_mean_17 : decode cX8_mean 17 = .ok (.ifCond .eq 12, 3) := by decide +kernel
theorem dX8_mean_20 : decode cX8_mean 20 = .ok (.iload_n 2, 1) := by decide +kernel
theorem dX8_mean_21 : decode cX8_mean 21 = .ok (.ifCond .lt 8, 3) := by decide +kernel
theorem dX8_mean_24 : decode cX8_mean 24 = .ok (.iload_n 2, 1) := by decide +kernel
theorem dX8_mean_25 : decode cX8_mean 25 = .ok (.iconst 1, 1) := by decide +kernel
theorem dX8_mean_26 : decode cX8_mean 26 = .ok (.if_icmp .le 6, 3) := by decide +kernel
theorem dX8_mean_29 : decode cX8_mean 29 = .ok (.ldc 86, 2) := by decide +kernel
theorem dX8_mean_31 : decode cX8_mean 31 = .ok (.ireturn, 1) := by decide +kernel
theorem dX8_mean_32 : decode cX8_mean 32 = .ok (.aload_n 0, 1) := by decide +kernel
theorem dX8_mean_33 : decode cX8_mean 33 = .ok (.getfield 26, 3) := by decide +kernel
theorem dX8_mean_36 : decode cX8_mean 36 = .ok (.invokevirtual 252, 3) := by decide +kernel
theorem dX8_mean_39 : decode cX8_mean 39 = .ok (.istore_n 3, 1) := by decide +kernel
theorem dX8_mean_40 : decode cX8_mean 40 = .ok (.iload_n 3, 1) := by decide +kernel
theorem dX8_mean_41 : decode cX8_mean 41 = .ok (.iconst 1, 1) := by decide +kernel
theorem dX8_mean_42 : decode cX8_mean 42 = .ok (.if_icmp .ge 6, 3) := by decide +kernel
theorem dX8_mean_45 : decode cX8_mean 45 = .ok (.ldc 198, 2) := by decide +kernel
theorem dX8_mean_47 : decode cX8_mean 47 = .ok (.ireturn, 1) := by decide +kernel
theorem dX8_mean_48 : decode cX8_mean 48 = .ok (.aload_n 0, 1) := by decide +kernel
theorem dX8_mean_49 : decode cX8_mean 49 = .ok (.getfield 57, 3) := by decide +kernel
theorem dX8_mean_52 : decode cX8_mean 52 = .ok (.aload_n 0, 1) := by decide +kernel
theorem dX8_mean_53 : decode cX8_mean 53 = .ok (.getfield 26, 3) := by decide +kernel
theorem dX8_mean_56 : decode cX8_mean 56 = .ok (.iconst 1, 1) := by decide +kernel
theorem dX8_mean_57 : decode cX8_mean 57 = .ok (.iload_n 1, 1) := by decide +kernel
theorem dX8_mean_58 : decode cX8_mean 58 = .ok (.ishl, 1) := by decide +kernel
theorem dX8_mean_59 : decode cX8_mean 59 = .ok (.invokevirtual 208, 3) := by decide +kernel
theorem dX8_mean_62 : decode cX8_mean 62 = .ok (.istore 4, 2) := by decide +kernel
theorem dX8_mean_64 : decode cX8_mean 64 = .ok (.iload 4, 2) := by decide +kernel
theorem dX8_mean_66 : decode cX8_mean 66 = .ok (.iload_n 3, 1) := by decide +kernel
theorem dX8_mean_67 : decode cX8_mean 67 = .ok (.invokestatic 255, 3) := by decide +kernel
theorem dX8_mean_70 : decode cX8_mean 70 = .ok (.istore 5, 2) := by decide +kernel
theorem dX8_mean_72 : decode cX8_mean 72 = .ok (.iload 5, 2) := by decide +kernel
theorem dX8_mean_74 : decode cX8_mean 74 = .ok (.iconst 1, 1) := by decide +kernel
theorem dX8_mean_75 : decode cX8_mean 75 = .ok (.if_icmp .ge 6, 3) := by decide +kernel
theorem dX8_mean_78 : decode cX8_mean 78 = .ok (.ldc 198, 2) := by decide +kernel
theorem dX8_mean_80 : decode cX8_mean 80 = .ok (.ireturn, 1) := by decide +kernel
theorem dX8_mean_81 : decode cX8_mean 81 = .ok (.iload_n 2, 1) := by decide +kernel
theorem dX8_mean_82 : decode cX8_mean 82 = .ok (.ifCond .ne 8, 3) := by decide +kernel
theorem dX8_mean_85 : decode cX8_mean 85 = .ok (.iload 4, 2) := by decide +kernel
theorem dX8_mean_87 : decode cX8_mean 87 = .ok (.goto 4, 3) := by decide +kernel
theorem dX8_mean_90 : decode cX8_mean 90 = .ok (.iload_n 3, 1) := by decide +kernel
theorem dX8_mean_91 : decode cX8_mean 91 = .ok (.iload 5, 2) := by decide +kernel
theorem dX8_mean_93 : decode cX8_mean 93 = .ok (.idiv, 1) := by decide +kernel
theorem dX8_mean_94 : decode cX8_mean 94 = .ok (.ireturn, 1) := by decide +kernel
theorem dX8_asked_0 : decode cX8_asked 0 = .ok (.aload_n 0, 1) := by decide +kernel
theorem dX8_asked_1 : decode cX8_asked 1 = .ok (.getfield 26, 3) := by decide +kernel
theorem dX8_asked_4 : decode cX8_asked 4 = .ok (.iload_n 1, 1) := by decide +kernel
theorem dX8_asked_5 : decode cX8_asked 5 = .ok (.invokevirtual 176, 3) := by decide +kernel
theorem dX8_asked_8 : decode cX8_asked 8 = .ok (.ifCond .eq 60, 3) := by decide +kernel
theorem dX8_asked_11 : decode cX8_asked 11 = .ok (.aload_n 0, 1) := by decide +kernel
theorem dX8_asked_12 : decode cX8_asked 12 = .ok (.getfield 10, 3) := by decide +kernel
theorem dX8_asked_15 : decode cX8_asked 15 = .ok (.iload_n 2, 1) := by decide +kernel
theorem dX8_asked_16 : decode cX8_asked 16 = .ok (.invokevirtual 82, 3) := by decide +kernel
theorem dX8_asked_19 : decode cX8_asked 19 = .ok (.ifCond .eq 49, 3) := by decide +kernel
theorem dX8_asked_22 : decode cX8_asked 22 = .ok (.iload_n 3, 1) := by decide +kernel
theorem dX8_asked_23 : decode cX8_asked 23 = .ok (.iconst 1, 1) := by decide +kernel
theorem dX8_asked_24 : decode cX8_asked 24 = .ok (.if_icmp .lt 44, 3) := by decide +kernel
theorem dX8_asked_27 : decode cX8_asked 27 = .ok (.iload_n 3, 1) := by decide +kernel
theorem dX8_asked_28 : decode cX8_asked 28 = .ok (.bipush 18, 2) := by decide +kernel
theorem dX8_asked_30 : decode cX8_asked 30 = .ok (.if_icmp .gt 38, 3) := by decide +kernel
theorem dX8_asked_33 : decode cX8_asked 33 = .ok (.iload 4, 2) := by decide +kernel
theorem dX8_asked_35 : decode cX8_asked 35 = .ok (.ifCond .lt 33, 3) := by decide +kernel
theorem dX8_asked_38 : decode cX8_asked 38 = .ok (.iload 4, 2) := by decide +kernel
theorem dX8_asked_40 : decode cX8_asked 40 = .ok (.iload_n 3, 1) := by decide +kernel
theorem dX8_asked_41 : decode cX8_asked 41 = .ok (.if_icmp .ge 27, 3) := by decide +kernel
theorem dX8_asked_44 : decode cX8_asked 44 = .ok (.iload 5, 2) := by decide +kernel
theorem dX8_asked_46 : decode cX8_asked 46 = .ok (.ifCond .lt 22, 3) := by decide +kernel
theorem dX8_asked_49 : decode cX8_asked 49 = .ok (.iload 5, 2) := by decide +kernel
theorem dX8_asked_51 : decode cX8_asked 51 = .ok (.sipush 9999, 3) := by decide +kernel
theorem dX8_asked_54 : decode cX8_asked 54 = .ok (.if_icmp .gt 14, 3) := by decide +kernel
theorem dX8_asked_57 : decode cX8_asked 57 = .ok (.iload 6, 2) := by decide +kernel
theorem dX8_asked_59 : decode cX8_asked 59 = .ok (.ifCond .lt 9, 3) := by decide +kernel
theorem dX8_asked_62 : decode cX8_asked 62 = .ok (.iload 6, 2) := by decide +kernel
theorem dX8_asked_64 : decode cX8_asked 64 = .ok (.iconst 1, 1) := by decide +kernel
theorem dX8_asked_65 : decode cX8_asked 65 = .ok (.if_icmp .le 6, 3) := by decide +kernel
theorem dX8_asked_68 : decode cX8_asked 68 = .ok (.ldc 86, 2) := by decide +kernel
theorem dX8_asked_70 : decode cX8_asked 70 = .ok (.ireturn, 1) := by decide +kernel
theorem dX8_asked_71 : decode cX8_asked 71 = .ok (.aload_n 0, 1) := by decide +kernel
theorem dX8_asked_72 : decode cX8_asked 72 = .ok (.getfield 10, 3) := by decide +kernel
theorem dX8_asked_75 : decode cX8_asked 75 = .ok (.iload_n 2, 1) := by decide +kernel
theorem dX8_asked_76 : decode cX8_asked 76 = .ok (.invokevirtual 98, 3) := by decide +kernel
theorem dX8_asked_79 : decode cX8_asked 79 = .ok (.ifCond .eq 9, 3) := by decide +kernel
theorem dX8_asked_82 : decode cX8_asked 82 = .ok (.aload_n 0, 1) := by decide +kernel
theorem dX8_asked_83 : decode cX8_asked 83 = .ok (.iconst 1, 1) := by decide +kernel
theorem dX8_asked_84 : decode cX8_asked 84 = .ok (.invokevirtual 87, 3) := by decide +kernel
theorem dX8_asked_87 : decode cX8_asked 87 = .ok (.ireturn, 1) := by decide +kernel
theorem dX8_asked_88 : decode cX8_asked 88 = .ok (.iload_n 3, 1) := by decide +kernel
theorem dX8_asked_89 : decode cX8_asked 89 = .ok (.aload_n 0, 1) := by decide +kernel
theorem dX8_asked_90 : decode cX8_asked 90 = .ok (.getfield 10, 3) := by decide +kernel
theorem dX8_asked_93 : decode cX8_asked 93 = .ok (.iload_n 2, 1) := by decide +kernel
theorem dX8_asked_94 : decode cX8_asked 94 = .ok (.invokevirtual 101, 3) := by decide +kernel
theorem dX8_asked_97 : decode cX8_asked 97 = .ok (.if_icmp .le 9, 3) := by decide +kernel
theorem dX8_asked_100 : decode cX8_asked 100 = .ok (.aload_n 0, 1) := by decide +kernel
theorem dX8_asked_101 : decode cX8_asked 101 = .ok (.iconst 2, 1) := by decide +kernel
theorem dX8_asked_102 : decode cX8_asked 102 = .ok (.invokevirtual 87, 3) := by decide +kernel
theorem dX8_asked_105 : decode cX8_asked 105 = .ok (.ireturn, 1) := by decide +kernel
theorem dX8_asked_106 : decode cX8_asked 106 = .ok (.aload_n 0, 1) := by decide +kernel
theorem dX8_asked_107 : decode cX8_asked 107 = .ok (.iload_n 2, 1) := by decide +kernel
theorem dX8_asked_108 : decode cX8_asked 108 = .ok (.iload_n 3, 1) := by decide +kernel
theorem dX8_asked_109 : decode cX8_asked 109 = .ok (.invokevirtual 258, 3) := by decide +kernel
theorem dX8_asked_112 : decode cX8_asked 112 = .ok (.ifCond .ne 6, 3) := by decide +kernel
theorem dX8_asked_115 : decode cX8_asked 115 = .ok (.ldc 86, 2) := by decide +kernel
theorem dX8_asked_117 : decode cX8_asked 117 = .ok (.ireturn, 1) := by decide +kernel
theorem dX8_asked_118 : decode cX8_asked 118 = .ok (.aload_n 0, 1) := by decide +kernel
theorem dX8_asked_119 : decode cX8_asked 119 = .ok (.aload_n 0, 1) := by decide +kernel
theorem dX8_asked_120 : decode cX8_asked 120 = .ok (.iload_n 1, 1) := by decide +kernel
theorem dX8_asked_121 : decode cX8_asked 121 = .ok (.iload_n 2, 1) := by decide +kernel
theorem dX8_asked_122 : decode cX8_asked 122 = .ok (.iload_n 3, 1) := by decide +kernel
theorem dX8_asked_123 : decode cX8_asked 123 = .ok (.iload 4, 2) := by decide +kernel
theorem dX8_asked_125 : decode cX8_asked 125 = .ok (.iload 5, 2) := by decide +kernel
theorem dX8_asked_127 : decode cX8_asked 127 = .ok (.iload 6, 2) := by decide +kernel
theorem dX8_asked_129 : decode cX8_asked 129 = .ok (.invokevirtual 262, 3) := by decide +kernel
theorem dX8_asked_132 : decode cX8_asked 132 = .ok (.invokevirtual 95, 3) := by decide +kernel
theorem dX8_asked_135 : decode cX8_asked 135 = .ok (.ireturn, 1) := by decide +kernel
theorem dX8_deal_0 : decode cX8_deal 0 = .ok (.aload_n 0, 1) := by decide +kernel
theorem dX8_deal_1 : decode cX8_deal 1 = .ok (.getfield 26, 3) := by decide +kernel
theorem dX8_deal_4 : decode cX8_deal 4 = .ok (.iload_n 1, 1) := by decide +kernel
theorem dX8_deal_5 : decode cX8_deal 5 = .ok (.invokevirtual 147, 3) := by decide +kernel
theorem dX8_deal_8 : decode cX8_deal 8 = .ok (.ifCond .eq 32, 3) := by decide +kernel
theorem dX8_deal_11 : decode cX8_deal 11 = .ok (.iload_n 2, 1) := by decide +kernel
theorem dX8_deal_12 : decode cX8_deal 12 = .ok (.invokestatic 153, 3) := by decide +kernel
theorem dX8_deal_15 : decode cX8_deal 15 = .ok (.ifCond .eq 25, 3) := by decide +kernel
theorem dX8_deal_18 : decode cX8_deal 18 = .ok (.aload_n 0, 1) := by decide +kernel
theorem dX8_deal_19 : decode cX8_deal 19 = .ok (.getfield 26, 3) := by decide +kernel
theorem dX8_deal_22 : decode cX8_deal 22 = .ok (.getfield 156, 3) := by decide +kernel
theorem dX8_deal_25 : decode cX8_deal 25 = .ok (.iload_n 1, 1) := by decide +kernel
theorem dX8_deal_26 : decode cX8_deal 26 = .ok (.iaload, 1) := by decide +kernel
theorem dX8_deal_27 : decode cX8_deal 27 = .ok (.iload_n 2, 1) := by decide +kernel
theorem dX8_deal_28 : decode cX8_deal 28 = .ok (.if_icmp .eq 12, 3) := by decide +kernel
theorem dX8_deal_31 : decode cX8_deal 31 = .ok (.iload_n 3, 1) := by decide +kernel
theorem dX8_deal_32 : decode cX8_deal 32 = .ok (.ifCond .lt 8, 3) := by decide +kernel
theorem dX8_deal_35 : decode cX8_deal 35 = .ok (.iload_n 3, 1) := by decide +kernel
theorem dX8_deal_36 : decode cX8_deal 36 = .ok (.iconst 1, 1) := by decide +kernel
theorem dX8_deal_37 : decode cX8_deal 37 = .ok (.if_icmp .le 6, 3) := by decide +kernel
theorem dX8_deal_40 : decode cX8_deal 40 = .ok (.ldc 86, 2) := by decide +kernel
theorem dX8_deal_42 : decode cX8_deal 42 = .ok (.ireturn, 1) := by decide +kernel
theorem dX8_deal_43 : decode cX8_deal 43 = .ok (.aload_n 0, 1) := by decide +kernel
theorem dX8_deal_44 : decode cX8_deal 44 = .ok (.iconst 1, 1) := by decide +kernel
theorem dX8_deal_45 : decode cX8_deal 45 = .ok (.iload_n 2, 1) := by decide +kernel
theorem dX8_deal_46 : decode cX8_deal 46 = .ok (.ishl, 1) := by decide +kernel
theorem dX8_deal_47 : decode cX8_deal 47 = .ok (.iload_n 3, 1) := by decide +kernel
theorem dX8_deal_48 : decode cX8_deal 48 = .ok (.invokevirtual 266, 3) := by decide +kernel
theorem dX8_deal_51 : decode cX8_deal 51 = .ok (.istore 4, 2) := by decide +kernel
theorem dX8_deal_53 : decode cX8_deal 53 = .ok (.aload_n 0, 1) := by decide +kernel
theorem dX8_deal_54 : decode cX8_deal 54 = .ok (.getfield 33, 3) := by decide +kernel
theorem dX8_deal_57 : decode cX8_deal 57 = .ok (.aload_n 0, 1) := by decide +kernel
theorem dX8_deal_58 : decode cX8_deal 58 = .ok (.getfield 26, 3) := by decide +kernel
theorem dX8_deal_61 : decode cX8_deal 61 = .ok (.invokevirtual 214, 3) := by decide +kernel
theorem dX8_deal_64 : decode cX8_deal 64 = .ok (.aload_n 0, 1) := by decide +kernel
theorem dX8_deal_65 : decode cX8_deal 65 = .ok (.getfield 33, 3) := by decide +kernel
theorem dX8_deal_68 : decode cX8_deal 68 = .ok (.getfield 156, 3) := by decide +kernel
theorem dX8_deal_71 : decode cX8_deal 71 = .ok (.iload_n 1, 1) := by decide +kernel
theorem dX8_deal_72 : decode cX8_deal 72 = .ok (.iload_n 2, 1) := by decide +kernel
theorem dX8_deal_73 : decode cX8_deal 73 = .ok (.iastore, 1) := by decide +kernel
theorem dX8_deal_74 : decode cX8_deal 74 = .ok (.iload_n 3, 1) := by decide +kernel
theorem dX8_deal_75 : decode cX8_deal 75 = .ok (.ifCond .ne 21, 3) := by decide +kernel
theorem dX8_deal_78 : decode cX8_deal 78 = .ok (.aload_n 0, 1) := by decide +kernel
theorem dX8_deal_79 : decode cX8_deal 79 = .ok (.getfield 57, 3) := by decide +kernel
theorem dX8_deal_82 : decode cX8_deal 82 = .ok (.aload_n 0, 1) := by decide +kernel
theorem dX8_deal_83 : decode cX8_deal 83 = .ok (.getfield 33, 3) := by decide +kernel
theorem dX8_deal_86 : decode cX8_deal 86 = .ok (.iconst 1, 1) := by decide +kernel
theorem dX8_deal_87 : decode cX8_deal 87 = .ok (.iload_n 2, 1) := by decide +kernel
theorem dX8_deal_88 : decode cX8_deal 88 = .ok (.ishl, 1) := by decide +kernel
theorem dX8_deal_89 : decode cX8_deal 89 = .ok (.invokevirtual 208, 3) := by decide +kernel
theorem dX8_deal_92 : decode cX8_deal 92 = .ok (.iload 4, 2) := by decide +kernel
theorem dX8_deal_94 : decode cX8_deal 94 = .ok (.isub, 1) := by decide +kernel
theorem dX8_deal_95 : decode cX8_deal 95 = .ok (.ireturn, 1) := by decide +kernel
theorem dX8_deal_96 : decode cX8_deal 96 = .ok (.aload_n 0, 1) := by decide +kernel
theorem dX8_deal_97 : decode cX8_deal 97 = .ok (.getfield 57, 3) := by decide +kernel
theorem dX8_deal_100 : decode cX8_deal 100 = .ok (.aload_n 0, 1) := by decide +kernel
theorem dX8_deal_101 : decode cX8_deal 101 = .ok (.getfield 33, 3) := by decide +kernel
theorem dX8_deal_104 : decode cX8_deal 104 = .ok (.iconst 1, 1) := by decide +kernel
theorem dX8_deal_105 : decode cX8_deal 105 = .ok (.iload_n 2, 1) := by decide +kernel
theorem dX8_deal_106 : decode cX8_deal 106 = .ok (.ishl, 1) := by decide +kernel
theorem dX8_deal_107 : decode cX8_deal 107 = .ok (.invokevirtual 217, 3) := by decide +kernel
theorem dX8_deal_110 : decode cX8_deal 110 = .ok (.aload_n 0, 1) := by decide +kernel
theorem dX8_deal_111 : decode cX8_deal 111 = .ok (.getfield 57, 3) := by decide +kernel
theorem dX8_deal_114 : decode cX8_deal 114 = .ok (.invokevirtual 223, 3) := by decide +kernel
theorem dX8_deal_117 : decode cX8_deal 117 = .ok (.iload 4, 2) := by decide +kernel
theorem dX8_deal_119 : decode cX8_deal 119 = .ok (.isub, 1) := by decide +kernel
theorem dX8_deal_120 : decode cX8_deal 120 = .ok (.ireturn, 1) := by decide +kernel
theorem dX8_image_0 : decode cX8_image 0 = .ok (.iload_n 1, 1) := by decide +kernel
theorem dX8_image_1 : decode cX8_image 1 = .ok (.ifCond .lt 8, 3) := by decide +kernel
theorem dX8_image_4 : decode cX8_image 4 = .ok (.iload_n 1, 1) := by decide +kernel
theorem dX8_image_5 : decode cX8_image 5 = .ok (.iconst 2, 1) := by decide +kernel
theorem dX8_image_6 : decode cX8_image 6 = .ok (.if_icmp .lt 6, 3) := by decide +kernel
theorem dX8_image_9 : decode cX8_image 9 = .ok (.ldc 86, 2) := by decide +kernel
theorem dX8_image_11 : decode cX8_image 11 = .ok (.ireturn, 1) := by decide +kernel
theorem dX8_image_12 : decode cX8_image 12 = .ok (.aload_n 0, 1) := by decide +kernel
theorem dX8_image_13 : decode cX8_image 13 = .ok (.getfield 26, 3) := by decide +kernel
theorem dX8_image_16 : decode cX8_image 16 = .ok (.invokevirtual 205, 3) := by decide +kernel
theorem dX8_image_19 : decode cX8_image 19 = .ok (.ifCond .eq 6, 3) := by decide +kernel
theorem dX8_image_22 : decode cX8_image 22 = .ok (.ldc 163, 2) := by decide +kernel
theorem dX8_image_24 : decode cX8_image 24 = .ok (.ireturn, 1) := by decide +kernel
theorem dX8_image_25 : decode cX8_image 25 = .ok (.aload_n 0, 1) := by decide +kernel
theorem dX8_image_26 : decode cX8_image 26 = .ok (.getfield 36, 3) := by decide +kernel
theorem dX8_image_29 : decode cX8_image 29 = .ok (.iload_n 1, 1) := by decide +kernel
theorem dX8_image_30 : decode cX8_image 30 = .ok (.aaload, 1) := by decide +kernel
theorem dX8_image_31 : decode cX8_image 31 = .ok (.aload_n 0, 1) := by decide +kernel
theorem dX8_image_32 : decode cX8_image 32 = .ok (.getfield 26, 3) := by decide +kernel
theorem dX8_image_35 : decode cX8_image 35 = .ok (.invokevirtual 214, 3) := by decide +kernel
theorem dX8_image_38 : decode cX8_image 38 = .ok (.iconst 1, 1) := by decide +kernel
theorem dX8_image_39 : decode cX8_image 39 = .ok (.ireturn, 1) := by decide +kernel
theorem dX8_restore_0 : decode cX8_restore 0 = .ok (.iload_n 1, 1) := by decide +kernel
theorem dX8_restore_1 : decode cX8_restore 1 = .ok (.ifCond .lt 8, 3) := by decide +kernel
theorem dX8_restore_4 : decode cX8_restore 4 = .ok (.iload_n 1, 1) := by decide +kernel
theorem dX8_restore_5 : decode cX8_restore 5 = .ok (.iconst 2, 1) := by decide +kernel
theorem dX8_restore_6 : decode cX8_restore 6 = .ok (.if_icmp .lt 6, 3) := by decide +kernel
theorem dX8_restore_9 : decode cX8_restore 9 = .ok (.ldc 86, 2) := by decide +kernel
theorem dX8_restore_11 : decode cX8_restore 11 = .ok (.ireturn, 1) := by decide +kernel
theorem dX8_restore_12 : decode cX8_restore 12 = .ok (.aload_n 0, 1) := by decide +kernel
theorem dX8_restore_13 : decode cX8_restore 13 = .ok (.getfield 36, 3) := by decide +kernel
theorem dX8_restore_16 : decode cX8_restore 16 = .ok (.iload_n 1, 1) := by decide +kernel
theorem dX8_restore_17 : decode cX8_restore 17 = .ok (.aaload, 1) := by decide +kernel
theorem dX8_restore_18 : decode cX8_restore 18 = .ok (.invokevirtual 205, 3) := by decide +kernel
theorem dX8_restore_21 : decode cX8_restore 21 = .ok (.ifCond .eq 6, 3) := by decide +kernel
theorem dX8_restore_24 : decode cX8_restore 24 = .ok (.ldc 163, 2) := by decide +kernel
theorem dX8_restore_26 : decode cX8_restore 26 = .ok (.ireturn, 1) := by decide +kernel
theorem dX8_restore_27 : decode cX8_restore 27 = .ok (.aload_n 0, 1) := by decide +kernel
theorem dX8_restore_28 : decode cX8_restore 28 = .ok (.aload_n 0, 1) := by decide +kernel
theorem dX8_restore_29 : decode cX8_restore 29 = .ok (.getfield 36, 3) := by decide +kernel
theorem dX8_restore_32 : decode cX8_restore 32 = .ok (.iload_n 1, 1) := by decide +kernel
theorem dX8_restore_33 : decode cX8_restore 33 = .ok (.aaload, 1) := by decide +kernel
theorem dX8_restore_34 : decode cX8_restore 34 = .ok (.invokevirtual 140, 3) := by decide +kernel
theorem dX8_restore_37 : decode cX8_restore 37 = .ok (.iconst 1, 1) := by decide +kernel
theorem dX8_restore_38 : decode cX8_restore 38 = .ok (.ireturn, 1) := by decide +kernel
theorem dX8_kind_0 : decode cX8_kind 0 = .ok (.aload_n 0, 1) := by decide +kernel
theorem dX8_kind_1 : decode cX8_kind 1 = .ok (.getfield 26, 3) := by decide +kernel
theorem dX8_kind_4 : decode cX8_kind 4 = .ok (.iload_n 1, 1) := by decide +kernel
theorem dX8_kind_5 : decode cX8_kind 5 = .ok (.invokevirtual 147, 3) := by decide +kernel
theorem dX8_kind_8 : decode cX8_kind 8 = .ok (.ifCond .eq 14, 3) := by decide +kernel
theorem dX8_kind_11 : decode cX8_kind 11 = .ok (.aload_n 0, 1) := by decide +kernel
theorem dX8_kind_12 : decode cX8_kind 12 = .ok (.getfield 26, 3) := by decide +kernel
theorem dX8_kind_15 : decode cX8_kind 15 = .ok (.iload_n 1, 1) := by decide +kernel
theorem dX8_kind_16 : decode cX8_kind 16 = .ok (.invokestatic 269, 3) := by decide +kernel
theorem dX8_kind_19 : decode cX8_kind 19 = .ok (.goto 5, 3) := by decide +kernel
theorem dX8_kind_22 : decode cX8_kind 22 = .ok (.ldc 86, 2) := by decide +kernel
theorem dX8_kind_24 : decode cX8_kind 24 = .ok (.ireturn, 1) := by decide +kernel
theorem dX8_as_0 : decode cX8_as 0 = .ok (.aload_n 0, 1) := by decide +kernel
theorem dX8_as_1 : decode cX8_as 1 = .ok (.getfield 26, 3) := by decide +kernel
theorem dX8_as_4 : decode cX8_as 4 = .ok (.iload_n 1, 1) := by decide +kernel
theorem dX8_as_5 : decode cX8_as 5 = .ok (.invokevirtual 147, 3) := by decide +kernel
theorem dX8_as_8 : decode cX8_as 8 = .ok (.ifCond .eq 13, 3) := by decide +kernel
theorem dX8_as_11 : decode cX8_as 11 = .ok (.iload_n 2, 1) := by decide +kernel
theorem dX8_as_12 : decode cX8_as 12 = .ok (.ifCond .lt 9, 3) := by decide +kernel
theorem dX8_as_15 : decode cX8_as 15 = .ok (.iload_n 2, 1) := by decide +kernel
theorem dX8_as_16 : decode cX8_as 16 = .ok (.bipush 6, 2) := by decide +kernel
theorem dX8_as_18 : decode cX8_as 18 = .ok (.if_icmp .lt 6, 3) := by decide +kernel
theorem dX8_as_21 : decode cX8_as 21 = .ok (.ldc 86, 2) := by decide +kernel
theorem dX8_as_23 : decode cX8_as 23 = .ok (.ireturn, 1) := by decide +kernel
theorem dX8_as_24 : decode cX8_as 24 = .ok (.aload_n 0, 1) := by decide +kernel
theorem dX8_as_25 : decode cX8_as 25 = .ok (.getfield 26, 3) := by decide +kernel
theorem dX8_as_28 : decode cX8_as 28 = .ok (.iload_n 1, 1) := by decide +kernel
theorem dX8_as_29 : decode cX8_as 29 = .ok (.invokestatic 269, 3) := by decide +kernel
theorem dX8_as_32 : decode cX8_as 32 = .ok (.iload_n 2, 1) := by decide +kernel
theorem dX8_as_33 : decode cX8_as 33 = .ok (.invokestatic 272, 3) := by decide +kernel
theorem dX8_as_36 : decode cX8_as 36 = .ok (.ifCond .ne 9, 3) := by decide +kernel
theorem dX8_as_39 : decode cX8_as 39 = .ok (.aload_n 0, 1) := by decide +kernel
theorem dX8_as_40 : decode cX8_as 40 = .ok (.iconst 3, 1) := by decide +kernel
theorem dX8_as_41 : decode cX8_as 41 = .ok (.invokevirtual 87, 3) := by decide +kernel
theorem dX8_as_44 : decode cX8_as 44 = .ok (.ireturn, 1) := by decide +kernel
theorem dX8_as_45 : decode cX8_as 45 = .ok (.aload_n 0, 1) := by decide +kernel
theorem dX8_as_46 : decode cX8_as 46 = .ok (.iload_n 1, 1) := by decide +kernel
theorem dX8_as_47 : decode cX8_as 47 = .ok (.invokevirtual 95, 3) := by decide +kernel
theorem dX8_as_50 : decode cX8_as 50 = .ok (.ireturn, 1) := by decide +kernel
theorem dX8_ask_0 : decode cX8_ask 0 = .ok (.aload_n 0, 1) := by decide +kernel
theorem dX8_ask_1 : decode cX8_ask 1 = .ok (.getfield 26, 3) := by decide +kernel
theorem dX8_ask_4 : decode cX8_ask 4 = .ok (.iload_n 1, 1) := by decide +kernel
theorem dX8_ask_5 : decode cX8_ask 5 = .ok (.invokevirtual 147, 3) := by decide +kernel
theorem dX8_ask_8 : decode cX8_ask 8 = .ok (.ifCond .eq 12, 3) := by decide +kernel
theorem dX8_ask_11 : decode cX8_ask 11 = .ok (.iload_n 2, 1) := by decide +kernel
theorem dX8_ask_12 : decode cX8_ask 12 = .ok (.ifCond .lt 8, 3) := by decide +kernel
theorem dX8_ask_15 : decode cX8_ask 15 = .ok (.iload_n 2, 1) := by decide +kernel
theorem dX8_ask_16 : decode cX8_ask 16 = .ok (.iconst 1, 1) := by decide +kernel
theorem dX8_ask_17 : decode cX8_ask 17 = .ok (.if_icmp .le 6, 3) := by decide +kernel
theorem dX8_ask_20 : decode cX8_ask 20 = .ok (.ldc 86, 2) := by decide +kernel
theorem dX8_ask_22 : decode cX8_ask 22 = .ok (.ireturn, 1) := by decide +kernel
theorem dX8_ask_23 : decode cX8_ask 23 = .ok (.aload_n 0, 1) := by decide +kernel
theorem dX8_ask_24 : decode cX8_ask 24 = .ok (.getfield 71, 3) := by decide +kernel
theorem dX8_ask_27 : decode cX8_ask 27 = .ok (.aload_n 0, 1) := by decide +kernel
theorem dX8_ask_28 : decode cX8_ask 28 = .ok (.getfield 26, 3) := by decide +kernel
theorem dX8_ask_31 : decode cX8_ask 31 = .ok (.iload_n 1, 1) := by decide +kernel
theorem dX8_ask_32 : decode cX8_ask 32 = .ok (.invokevirtual 275, 3) := by decide +kernel
theorem dX8_ask_35 : decode cX8_ask 35 = .ok (.iload_n 2, 1) := by decide +kernel
theorem dX8_ask_36 : decode cX8_ask 36 = .ok (.ifCond .ne 13, 3) := by decide +kernel
theorem dX8_ask_39 : decode cX8_ask 39 = .ok (.aload_n 0, 1) := by decide +kernel
theorem dX8_ask_40 : decode cX8_ask 40 = .ok (.getfield 71, 3) := by decide +kernel
theorem dX8_ask_43 : decode cX8_ask 43 = .ok (.invokevirtual 278, 3) := by decide +kernel
theorem dX8_ask_46 : decode cX8_ask 46 = .ok (.goto 10, 3) := by decide +kernel
theorem dX8_ask_49 : decode cX8_ask 49 = .ok (.aload_n 0, 1) := by decide +kernel
theorem dX8_ask_50 : decode cX8_ask 50 = .ok (.getfield 71, 3) := by decide +kernel
theorem dX8_ask_53 : decode cX8_ask 53 = .ok (.invokevirtual 281, 3) := by decide +kernel
theorem dX8_ask_56 : decode cX8_ask 56 = .ok (.ireturn, 1) := by decide +kernel
theorem dX8_trace_0 : decode cX8_trace 0 = .ok (.aload_n 0, 1) := by decide +kernel
theorem dX8_trace_1 : decode cX8_trace 1 = .ok (.getfield 71, 3) := by decide +kernel
theorem dX8_trace_4 : decode cX8_trace 4 = .ok (.iload_n 1, 1) := by decide +kernel
theorem dX8_trace_5 : decode cX8_trace 5 = .ok (.invokevirtual 284, 3) := by decide +kernel
theorem dX8_trace_8 : decode cX8_trace 8 = .ok (.ireturn, 1) := by decide +kernel
theorem dX8_count_0 : decode cX8_count 0 = .ok (.iload_n 1, 1) := by decide +kernel
theorem dX8_count_1 : decode cX8_count 1 = .ok (.tableswitch 87 0 5 #[39, 47, 55, 63, 71, 79], 39) := by decide +kernel
theorem dX8_count_40 : decode cX8_count 40 = .ok (.aload_n 0, 1) := by decide +kernel
theorem dX8_count_41 : decode cX8_count 41 = .ok (.getfield 10, 3) := by decide +kernel
theorem dX8_count_44 : decode cX8_count 44 = .ok (.invokevirtual 287, 3) := by decide +kernel
theorem dX8_count_47 : decode cX8_count 47 = .ok (.ireturn, 1) := by decide +kernel
theorem dX8_count_48 : decode cX8_count 48 = .ok (.aload_n 0, 1) := by decide +kernel
theorem dX8_count_49 : decode cX8_count 49 = .ok (.getfield 26, 3) := by decide +kernel
theorem dX8_count_52 : decode cX8_count 52 = .ok (.getfield 144, 3) := by decide +kernel
theorem dX8_count_55 : decode cX8_count 55 = .ok (.ireturn, 1) := by decide +kernel
theorem dX8_count_56 : decode cX8_count 56 = .ok (.aload_n 0, 1) := by decide +kernel
theorem dX8_count_57 : decode cX8_count 57 = .ok (.getfield 26, 3) := by decide +kernel
theorem dX8_count_60 : decode cX8_count 60 = .ok (.getfield 290, 3) := by decide +kernel
theorem dX8_count_63 : decode cX8_count 63 = .ok (.ireturn, 1) := by decide +kernel
theorem dX8_count_64 : decode cX8_count 64 = .ok (.aload_n 0, 1) := by decide +kernel
theorem dX8_count_65 : decode cX8_count 65 = .ok (.getfield 26, 3) := by decide +kernel
theorem dX8_count_68 : decode cX8_count 68 = .ok (.invokevirtual 293, 3) := by decide +kernel
theorem dX8_count_71 : decode cX8_count 71 = .ok (.ireturn, 1) := by decide +kernel
theorem dX8_count_72 : decode cX8_count 72 = .ok (.aload_n 0, 1) := by decide +kernel
theorem dX8_count_73 : decode cX8_count 73 = .ok (.getfield 43, 3) := by decide +kernel
theorem dX8_count_76 : decode cX8_count 76 = .ok (.invokevirtual 160, 3) := by decide +kernel
theorem dX8_count_79 : decode cX8_count 79 = .ok (.ireturn, 1) := by decide +kernel
theorem dX8_count_80 : decode cX8_count 80 = .ok (.aload_n 0, 1) := by decide +kernel
theorem dX8_count_81 : decode cX8_count 81 = .ok (.getfield 19, 3) := by decide +kernel
theorem dX8_count_84 : decode cX8_count 84 = .ok (.invokevirtual 296, 3) := by decide +kernel
theorem dX8_count_87 : decode cX8_count 87 = .ok (.ireturn, 1) := by decide +kernel
theorem dX8_count_88 : decode cX8_count 88 = .ok (.ldc 86, 2) := by decide +kernel
theorem dX8_count_90 : decode cX8_count 90 = .ok (.ireturn, 1) := by decide +kernel
theorem dX8_status_0 : decode cX8_status 0 = .ok (.aload_n 0, 1) := by decide +kernel
theorem dX8_status_1 : decode cX8_status 1 = .ok (.getfield 79, 3) := by decide +kernel
theorem dX8_status_4 : decode cX8_status 4 = .ok (.ireturn, 1) := by decide +kernel
theorem dX8_found_0 : decode cX8_found 0 = .ok (.aload_n 0, 1) := by decide +kernel
theorem dX8_found_1 : decode cX8_found 1 = .ok (.iload_n 1, 1) := by decide +kernel
theorem dX8_found_2 : decode cX8_found 2 = .ok (.putfield 79, 3) := by decide +kernel
theorem dX8_found_5 : decode cX8_found 5 = .ok (.ldc_w 299, 3) := by decide +kernel
theorem dX8_found_8 : decode cX8_found 8 = .ok (.iload_n 1, 1) := by decide +kernel
theorem dX8_found_9 : decode cX8_found 9 = .ok (.isub, 1) := by decide +kernel
theorem dX8_found_10 : decode cX8_found 10 = .ok (.ireturn, 1) := by decide +kernel
theorem dX8_fine_0 : decode cX8_fine 0 = .ok (.aload_n 0, 1) := by decide +kernel
theorem dX8_fine_1 : decode cX8_fine 1 = .ok (.iconst 0, 1) := by decide +kernel
theorem dX8_fine_2 : decode cX8_fine 2 = .ok (.putfield 79, 3) := by decide +kernel
theorem dX8_fine_5 : decode cX8_fine 5 = .ok (.iload_n 1, 1) := by decide +kernel
theorem dX8_fine_6 : decode cX8_fine 6 = .ok (.ireturn, 1) := by decide +kernel
theorem dX8_replaceBy_0 : decode cX8_replaceBy 0 = .ok (.aload_n 0, 1) := by decide +kernel
theorem dX8_replaceBy_1 : decode cX8_replaceBy 1 = .ok (.getfield 26, 3) := by decide +kernel
theorem dX8_replaceBy_4 : decode cX8_replaceBy 4 = .ok (.aload_n 1, 1) := by decide +kernel
theorem dX8_replaceBy_5 : decode cX8_replaceBy 5 = .ok (.invokevirtual 214, 3) := by decide +kernel
theorem dX8_replaceBy_8 : decode cX8_replaceBy 8 = .ok (.aload_n 0, 1) := by decide +kernel
theorem dX8_replaceBy_9 : decode cX8_replaceBy 9 = .ok (.getfield 43, 3) := by decide +kernel
theorem dX8_replaceBy_12 : decode cX8_replaceBy 12 = .ok (.invokevirtual 300, 3) := by decide +kernel
theorem dX8_replaceBy_15 : decode cX8_replaceBy 15 = .ok (.aload_n 0, 1) := by decide +kernel
theorem dX8_replaceBy_16 : decode cX8_replaceBy 16 = .ok (.getfield 64, 3) := by decide +kernel
theorem dX8_replaceBy_19 : decode cX8_replaceBy 19 = .ok (.invokevirtual 167, 3) := by decide +kernel
theorem dX8_replaceBy_22 : decode cX8_replaceBy 22 = .ok (.return_, 1) := by decide +kernel
theorem dX8_act_0 : decode cX8_act 0 = .ok (.aload_n 0, 1) := by decide +kernel
theorem dX8_act_1 : decode cX8_act 1 = .ok (.getfield 26, 3) := by decide +kernel
theorem dX8_act_4 : decode cX8_act 4 = .ok (.iload_n 1, 1) := by decide +kernel
theorem dX8_act_5 : decode cX8_act 5 = .ok (.iload_n 2, 1) := by decide +kernel
theorem dX8_act_6 : decode cX8_act 6 = .ok (.iload_n 3, 1) := by decide +kernel
theorem dX8_act_7 : decode cX8_act 7 = .ok (.invokestatic 303, 3) := by decide +kernel
theorem dX8_act_10 : decode cX8_act 10 = .ok (.istore 4, 2) := by decide +kernel
theorem dX8_act_12 : decode cX8_act 12 = .ok (.aload_n 0, 1) := by decide +kernel
theorem dX8_act_13 : decode cX8_act 13 = .ok (.getfield 43, 3) := by decide +kernel
theorem dX8_act_16 : decode cX8_act 16 = .ok (.iload_n 1, 1) := by decide +kernel
theorem dX8_act_17 : decode cX8_act 17 = .ok (.iload_n 2, 1) := by decide +kernel
theorem dX8_act_18 : decode cX8_act 18 = .ok (.iload 4, 2) := by decide +kernel
theorem dX8_act_20 : decode cX8_act 20 = .ok (.invokevirtual 307, 3) := by decide +kernel
theorem dX8_act_23 : decode cX8_act 23 = .ok (.aload_n 0, 1) := by decide +kernel
theorem dX8_act_24 : decode cX8_act 24 = .ok (.getfield 64, 3) := by decide +kernel
theorem dX8_act_27 : decode cX8_act 27 = .ok (.invokevirtual 167, 3) := by decide +kernel
theorem dX8_act_30 : decode cX8_act 30 = .ok (.iload 4, 2) := by decide +kernel
theorem dX8_act_32 : decode cX8_act 32 = .ok (.ireturn, 1) := by decide +kernel
theorem dX8_bestTakenBy_0 : decode cX8_bestTakenBy 0 = .ok (.aload_n 0, 1) := by decide +kernel
theorem dX8_bestTakenBy_1 : decode cX8_bestTakenBy 1 = .ok (.getfield 33, 3) := by decide +kernel
theorem dX8_bestTakenBy_4 : decode cX8_bestTakenBy 4 = .ok (.aload_n 0, 1) := by decide +kernel
theorem dX8_bestTakenBy_5 : decode cX8_bestTakenBy 5 = .ok (.getfield 26, 3) := by decide +kernel
theorem dX8_bestTakenBy_8 : decode cX8_bestTakenBy 8 = .ok (.invokevirtual 214, 3) := by decide +kernel
theorem dX8_bestTakenBy_11 : decode cX8_bestTakenBy 11 = .ok (.aload_n 0, 1) := by decide +kernel
theorem dX8_bestTakenBy_12 : decode cX8_bestTakenBy 12 = .ok (.getfield 57, 3) := by decide +kernel
theorem dX8_bestTakenBy_15 : decode cX8_bestTakenBy 15 = .ok (.aload_n 0, 1) := by decide +kernel
theorem dX8_bestTakenBy_16 : decode cX8_bestTakenBy 16 = .ok (.getfield 33, 3) := by decide +kernel
theorem dX8_bestTakenBy_19 : decode cX8_bestTakenBy 19 = .ok (.iload_n 1, 1) := by decide +kernel
theorem dX8_bestTakenBy_20 : decode cX8_bestTakenBy 20 = .ok (.invokevirtual 217, 3) := by decide +kernel
theorem dX8_bestTakenBy_23 : decode cX8_bestTakenBy 23 = .ok (.aload_n 0, 1) := by decide +kernel
theorem dX8_bestTakenBy_24 : decode cX8_bestTakenBy 24 = .ok (.getfield 57, 3) := by decide +kernel
theorem dX8_bestTakenBy_27 : decode cX8_bestTakenBy 27 = .ok (.invokevirtual 223, 3) := by decide +kernel
theorem dX8_bestTakenBy_30 : decode cX8_bestTakenBy 30 = .ok (.ireturn, 1) := by decide +kernel
theorem dX8_dealTaken_0 : decode cX8_dealTaken 0 = .ok (.iload_n 2, 1) := by decide +kernel
theorem dX8_dealTaken_1 : decode cX8_dealTaken 1 = .ok (.ifCond .ne 18, 3) := by decide +kernel
theorem dX8_dealTaken_4 : decode cX8_dealTaken 4 = .ok (.aload_n 0, 1) := by decide +kernel
theorem dX8_dealTaken_5 : decode cX8_dealTaken 5 = .ok (.getfield 57, 3) := by decide +kernel
theorem dX8_dealTaken_8 : decode cX8_dealTaken 8 = .ok (.aload_n 0, 1) := by decide +kernel
theorem dX8_dealTaken_9 : decode cX8_dealTaken 9 = .ok (.getfield 26, 3) := by decide +kernel
theorem dX8_dealTaken_12 : decode cX8_dealTaken 12 = .ok (.iload_n 1, 1) := by decide +kernel
theorem dX8_dealTaken_13 : decode cX8_dealTaken 13 = .ok (.invokevirtual 208, 3) := by decide +kernel
theorem dX8_dealTaken_16 : decode cX8_dealTaken 16 = .ok (.goto 8, 3) := by decide +kernel
theorem dX8_dealTaken_19 : decode cX8_dealTaken 19 = .ok (.aload_n 0, 1) := by decide +kernel
theorem dX8_dealTaken_20 : decode cX8_dealTaken 20 = .ok (.iload_n 1, 1) := by decide +kernel
theorem dX8_dealTaken_21 : decode cX8_dealTaken 21 = .ok (.invokevirtual 310, 3) := by decide +kernel
theorem dX8_dealTaken_24 : decode cX8_dealTaken 24 = .ok (.ireturn, 1) := by decide +kernel
theorem dX8_shareOf_0 : decode cX8_shareOf 0 = .ok (.aload_n 0, 1) := by decide +kernel
theorem dX8_shareOf_1 : decode cX8_shareOf 1 = .ok (.iload_n 1, 1) := by decide +kernel
theorem dX8_shareOf_2 : decode cX8_shareOf 2 = .ok (.iload_n 2, 1) := by decide +kernel
theorem dX8_shareOf_3 : decode cX8_shareOf 3 = .ok (.ior, 1) := by decide +kernel
theorem dX8_shareOf_4 : decode cX8_shareOf 4 = .ok (.iload_n 3, 1) := by decide +kernel
theorem dX8_shareOf_5 : decode cX8_shareOf 5 = .ok (.ior, 1) := by decide +kernel
theorem dX8_shareOf_6 : decode cX8_shareOf 6 = .ok (.invokevirtual 310, 3) := by decide +kernel
theorem dX8_shareOf_9 : decode cX8_shareOf 9 = .ok (.istore 5, 2) := by decide +kernel
theorem dX8_shareOf_11 : decode cX8_shareOf 11 = .ok (.aload_n 0, 1) := by decide +kernel
theorem dX8_shareOf_12 : decode cX8_shareOf 12 = .ok (.iload_n 1, 1) := by decide +kernel
theorem dX8_shareOf_13 : decode cX8_shareOf 13 = .ok (.iload_n 2, 1) := by decide +kernel
theorem dX8_shareOf_14 : decode cX8_shareOf 14 = .ok (.ior, 1) := by decide +kernel
theorem dX8_shareOf_15 : decode cX8_shareOf 15 = .ok (.invokevirtual 310, 3) := by decide +kernel
theorem dX8_shareOf_18 : decode cX8_shareOf 18 = .ok (.istore 6, 2) := by decide +kernel
theorem dX8_shareOf_20 : decode cX8_shareOf 20 = .ok (.aload_n 0, 1) := by decide +kernel
theorem dX8_shareOf_21 : decode cX8_shareOf 21 = .ok (.iload_n 1, 1) := by decide +kernel
theorem dX8_shareOf_22 : decode cX8_shareOf 22 = .ok (.iload_n 3, 1) := by decide +kernel
theorem dX8_shareOf_23 : decode cX8_shareOf 23 = .ok (.ior, 1) := by decide +kernel
theorem dX8_shareOf_24 : decode cX8_shareOf 24 = .ok (.invokevirtual 310, 3) := by decide +kernel
theorem dX8_shareOf_27 : decode cX8_shareOf 27 = .ok (.istore 7, 2) := by decide +kernel
theorem dX8_shareOf_29 : decode cX8_shareOf 29 = .ok (.aload_n 0, 1) := by decide +kernel
theorem dX8_shareOf_30 : decode cX8_shareOf 30 = .ok (.iload_n 1, 1) := by decide +kernel
theorem dX8_shareOf_31 : decode cX8_shareOf 31 = .ok (.invokevirtual 310, 3) := by decide +kernel
theorem dX8_shareOf_34 : decode cX8_shareOf 34 = .ok (.iload 6, 2) := by decide +kernel
theorem dX8_shareOf_36 : decode cX8_shareOf 36 = .ok (.iload 7, 2) := by decide +kernel
theorem dX8_shareOf_38 : decode cX8_shareOf 38 = .ok (.iadd, 1) := by decide +kernel
theorem dX8_shareOf_39 : decode cX8_shareOf 39 = .ok (.iload 5, 2) := by decide +kernel
theorem dX8_shareOf_41 : decode cX8_shareOf 41 = .ok (.isub, 1) := by decide +kernel
theorem dX8_shareOf_42 : decode cX8_shareOf 42 = .ok (.invokestatic 226, 3) := by decide +kernel
theorem dX8_shareOf_45 : decode cX8_shareOf 45 = .ok (.istore 8, 2) := by decide +kernel
theorem dX8_shareOf_47 : decode cX8_shareOf 47 = .ok (.aload_n 0, 1) := by decide +kernel
theorem dX8_shareOf_48 : decode cX8_shareOf 48 = .ok (.iload_n 2, 1) := by decide +kernel
theorem dX8_shareOf_49 : decode cX8_shareOf 49 = .ok (.invokevirtual 310, 3) := by decide +kernel
theorem dX8_shareOf_52 : decode cX8_shareOf 52 = .ok (.iload 6, 2) := by decide +kernel
theorem dX8_shareOf_54 : decode cX8_shareOf 54 = .ok (.iload 8, 2) := by decide +kernel
theorem dX8_shareOf_56 : decode cX8_shareOf 56 = .ok (.isub, 1) := by decide +kernel
theorem dX8_shareOf_57 : decode cX8_shareOf 57 = .ok (.invokestatic 226, 3) := by decide +kernel
theorem dX8_shareOf_60 : decode cX8_shareOf 60 = .ok (.istore 9, 2) := by decide +kernel
theorem dX8_shareOf_62 : decode cX8_shareOf 62 = .ok (.iload 5, 2) := by decide +kernel
theorem dX8_shareOf_64 : decode cX8_shareOf 64 = .ok (.iload 8, 2) := by decide +kernel
theorem dX8_shareOf_66 : decode cX8_shareOf 66 = .ok (.isub, 1) := by decide +kernel
theorem dX8_shareOf_67 : decode cX8_shareOf 67 = .ok (.iload 9, 2) := by decide +kernel
theorem dX8_shareOf_69 : decode cX8_shareOf 69 = .ok (.isub, 1) := by decide +kernel
theorem dX8_shareOf_70 : decode cX8_shareOf 70 = .ok (.istore 10, 2) := by decide +kernel
theorem dX8_shareOf_72 : decode cX8_shareOf 72 = .ok (.iload 10, 2) := by decide +kernel
theorem dX8_shareOf_74 : decode cX8_shareOf 74 = .ok (.aload_n 0, 1) := by decide +kernel
theorem dX8_shareOf_75 : decode cX8_shareOf 75 = .ok (.iload_n 3, 1) := by decide +kernel
theorem dX8_shareOf_76 : decode cX8_shareOf 76 = .ok (.invokevirtual 310, 3) := by decide +kernel
theorem dX8_shareOf_79 : decode cX8_shareOf 79 = .ok (.if_icmp .lt 28, 3) := by decide +kernel
theorem dX8_shareOf_82 : decode cX8_shareOf 82 = .ok (.iload 8, 2) := by decide +kernel
theorem dX8_shareOf_84 : decode cX8_shareOf 84 = .ok (.iload 10, 2) := by decide +kernel
theorem dX8_shareOf_86 : decode cX8_shareOf 86 = .ok (.iadd, 1) := by decide +kernel
theorem dX8_shareOf_87 : decode cX8_shareOf 87 = .ok (.iload 7, 2) := by decide +kernel
theorem dX8_shareOf_89 : decode cX8_shareOf 89 = .ok (.if_icmp .lt 18, 3) := by decide +kernel
theorem dX8_shareOf_92 : decode cX8_shareOf 92 = .ok (.iload 9, 2) := by decide +kernel
theorem dX8_shareOf_94 : decode cX8_shareOf 94 = .ok (.iload 10, 2) := by decide +kernel
theorem dX8_shareOf_96 : decode cX8_shareOf 96 = .ok (.iadd, 1) := by decide +kernel
theorem dX8_shareOf_97 : decode cX8_shareOf 97 = .ok (.aload_n 0, 1) := by decide +kernel
theorem dX8_shareOf_98 : decode cX8_shareOf 98 = .ok (.iload_n 2, 1) := by decide +kernel
theorem dX8_shareOf_99 : decode cX8_shareOf 99 = .ok (.iload_n 3, 1) := by decide +kernel
theorem dX8_shareOf_100 : decode cX8_shareOf 100 = .ok (.ior, 1) := by decide +kernel
theorem dX8_shareOf_101 : decode cX8_shareOf 101 = .ok (.invokevirtual 310, 3) := by decide +kernel
theorem dX8_shareOf_104 : decode cX8_shareOf 104 = .ok (.if_icmp .ge 6, 3) := by decide +kernel
theorem dX8_shareOf_107 : decode cX8_shareOf 107 = .ok (.ldc 198, 2) := by decide +kernel
theorem dX8_shareOf_109 : decode cX8_shareOf 109 = .ok (.ireturn, 1) := by decide +kernel
theorem dX8_shareOf_110 : decode cX8_shareOf 110 = .ok (.iload 4, 2) := by decide +kernel
theorem dX8_shareOf_112 : decode cX8_shareOf 112 = .ok (.ifCond .ne 6, 3) := by decide +kernel
theorem dX8_shareOf_115 : decode cX8_shareOf 115 = .ok (.iload 8, 2) := by decide +kernel
theorem dX8_shareOf_117 : decode cX8_shareOf 117 = .ok (.ireturn, 1) := by decide +kernel
theorem dX8_shareOf_118 : decode cX8_shareOf 118 = .ok (.iload 4, 2) := by decide +kernel
theorem dX8_shareOf_120 : decode cX8_shareOf 120 = .ok (.iconst 1, 1) := by decide +kernel
theorem dX8_shareOf_121 : decode cX8_shareOf 121 = .ok (.if_icmp .ne 8, 3) := by decide +kernel
theorem dX8_shareOf_124 : decode cX8_shareOf 124 = .ok (.iload 9, 2) := by decide +kernel
theorem dX8_shareOf_126 : decode cX8_shareOf 126 = .ok (.goto 5, 3) := by decide +kernel
theorem dX8_shareOf_129 : decode cX8_shareOf 129 = .ok (.iload 10, 2) := by decide +kernel
theorem dX8_shareOf_131 : decode cX8_shareOf 131 = .ok (.ireturn, 1) := by decide +kernel
theorem dX8_commonDivisor_0 : decode cX8_commonDivisor 0 = .ok (.iload_n 0, 1) := by decide +kernel
theorem dX8_commonDivisor_1 : decode cX8_commonDivisor 1 = .ok (.istore_n 2, 1) := by decide +kernel
theorem dX8_commonDivisor_2 : decode cX8_commonDivisor 2 = .ok (.iload_n 1, 1) := by decide +kernel
theorem dX8_commonDivisor_3 : decode cX8_commonDivisor 3 = .ok (.istore_n 3, 1) := by decide +kernel
theorem dX8_commonDivisor_4 : decode cX8_commonDivisor 4 = .ok (.iconst 0, 1) := by decide +kernel
theorem dX8_commonDivisor_5 : decode cX8_commonDivisor 5 = .ok (.istore 4, 2) := by decide +kernel
theorem dX8_commonDivisor_7 : decode cX8_commonDivisor 7 = .ok (.iload 4, 2) := by decide +kernel
theorem dX8_commonDivisor_9 : decode cX8_commonDivisor 9 = .ok (.bipush 64, 2) := by decide +kernel
theorem dX8_commonDivisor_11 : decode cX8_commonDivisor 11 = .ok (.if_icmp .ge 23, 3) := by decide +kernel
theorem dX8_commonDivisor_14 : decode cX8_commonDivisor 14 = .ok (.iload_n 3, 1) := by decide +kernel
theorem dX8_commonDivisor_15 : decode cX8_commonDivisor 15 = .ok (.ifCond .le 19, 3) := by decide +kernel
theorem dX8_commonDivisor_18 : decode cX8_commonDivisor 18 = .ok (.iload_n 2, 1) := by decide +kernel
theorem dX8_commonDivisor_19 : decode cX8_commonDivisor 19 = .ok (.iload_n 3, 1) := by decide +kernel
theorem dX8_commonDivisor_20 : decode cX8_commonDivisor 20 = .ok (.irem, 1) := by decide +kernel
theorem dX8_commonDivisor_21 : decode cX8_commonDivisor 21 = .ok (.istore 5, 2) := by decide +kernel
theorem dX8_commonDivisor_23 : decode cX8_commonDivisor 23 = .ok (.iload_n 3, 1) := by decide +kernel
theorem dX8_commonDivisor_24 : decode cX8_commonDivisor 24 = .ok (.istore_n 2, 1) := by decide +kernel
theorem dX8_commonDivisor_25 : decode cX8_commonDivisor 25 = .ok (.iload 5, 2) := by decide +kernel
theorem dX8_commonDivisor_27 : decode cX8_commonDivisor 27 = .ok (.istore_n 3, 1) := by decide +kernel
theorem dX8_commonDivisor_28 : decode cX8_commonDivisor 28 = .ok (.iinc 4 1, 3) := by decide +kernel
theorem dX8_commonDivisor_31 : decode cX8_commonDivisor 31 = .ok (.goto (-24), 3) := by decide +kernel
theorem dX8_commonDivisor_34 : decode cX8_commonDivisor 34 = .ok (.iload_n 2, 1) := by decide +kernel
theorem dX8_commonDivisor_35 : decode cX8_commonDivisor 35 = .ok (.ireturn, 1) := by decide +kernel
theorem dX8_areRisingSteps_0 : decode cX8_areRisingSteps 0 = .ok (.iconst (-1), 1) := by decide +kernel
theorem dX8_areRisingSteps_1 : decode cX8_areRisingSteps 1 = .ok (.istore_n 3, 1) := by decide +kernel
theorem dX8_areRisingSteps_2 : decode cX8_areRisingSteps 2 = .ok (.iconst 0, 1) := by decide +kernel
theorem dX8_areRisingSteps_3 : decode cX8_areRisingSteps 3 = .ok (.istore 4, 2) := by decide +kernel
theorem dX8_areRisingSteps_5 : decode cX8_areRisingSteps 5 = .ok (.iload 4, 2) := by decide +kernel
theorem dX8_areRisingSteps_7 : decode cX8_areRisingSteps 7 = .ok (.iload_n 2, 1) := by decide +kernel
theorem dX8_areRisingSteps_8 : decode cX8_areRisingSteps 8 = .ok (.if_icmp .ge 44, 3) := by decide +kernel
theorem dX8_areRisingSteps_11 : decode cX8_areRisingSteps 11 = .ok (.aload_n 0, 1) := by decide +kernel
theorem dX8_areRisingSteps_12 : decode cX8_areRisingSteps 12 = .ok (.getfield 10, 3) := by decide +kernel
theorem dX8_areRisingSteps_15 : decode cX8_areRisingSteps 15 = .ok (.iload_n 1, 1) := by decide +kernel
theorem dX8_areRisingSteps_16 : decode cX8_areRisingSteps 16 = .ok (.iload 4, 2) := by decide +kernel
theorem dX8_areRisingSteps_18 : decode cX8_areRisingSteps 18 = .ok (.invokevirtual 313, 3) := by decide +kernel
theorem dX8_areRisingSteps_21 : decode cX8_areRisingSteps 21 = .ok (.istore 5, 2) := by decide +kernel
theorem dX8_areRisingSteps_23 : decode cX8_areRisingSteps 23 = .ok (.iload 5, 2) := by decide +kernel
theorem dX8_areRisingSteps_25 : decode cX8_areRisingSteps 25 = .ok (.iload_n 3, 1) := by decide +kernel
theorem dX8_areRisingSteps_26 : decode cX8_areRisingSteps 26 = .ok (.if_icmp .le 15, 3) := by decide +kernel
theorem dX8_areRisingSteps_29 : decode cX8_areRisingSteps 29 = .ok (.aload_n 0, 1) := by decide +kernel
theorem dX8_areRisingSteps_30 : decode cX8_areRisingSteps 30 = .ok (.getfield 26, 3) := by decide +kernel
theorem dX8_areRisingSteps_33 : decode cX8_areRisingSteps 33 = .ok (.iload 5, 2) := by decide +kernel
theorem dX8_areRisingSteps_35 : decode cX8_areRisingSteps 35 = .ok (.invokevirtual 147, 3) := by decide +kernel
theorem dX8_areRisingSteps_38 : decode cX8_areRisingSteps 38 = .ok (.ifCond .ne 5, 3) := by decide +kernel
theorem dX8_areRisingSteps_41 : decode cX8_areRisingSteps 41 = .ok (.iconst 0, 1) := by decide +kernel
theorem dX8_areRisingSteps_42 : decode cX8_areRisingSteps 42 = .ok (.ireturn, 1) := by decide +kernel
theorem dX8_areRisingSteps_43 : decode cX8_areRisingSteps 43 = .ok (.iload 5, 2) := by decide +kernel
theorem dX8_areRisingSteps_45 : decode cX8_areRisingSteps 45 = .ok (.istore_n 3, 1) := by decide +kernel
theorem dX8_areRisingSteps_46 : decode cX8_areRisingSteps 46 = .ok (.iinc 4 1, 3) := by decide +kernel
theorem dX8_areRisingSteps_49 : decode cX8_areRisingSteps 49 = .ok (.goto (-44), 3) := by decide +kernel
theorem dX8_areRisingSteps_52 : decode cX8_areRisingSteps 52 = .ok (.iconst 1, 1) := by decide +kernel
theorem dX8_areRisingSteps_53 : decode cX8_areRisingSteps 53 = .ok (.ireturn, 1) := by decide +kernel
theorem dX8_askingsThatFit_0 : decode cX8_askingsThatFit 0 = .ok (.aload_n 0, 1) := by decide +kernel
theorem dX8_askingsThatFit_1 : decode cX8_askingsThatFit 1 = .ok (.getfield 10, 3) := by decide +kernel
theorem dX8_askingsThatFit_4 : decode cX8_askingsThatFit 4 = .ok (.iload_n 2, 1) := by decide +kernel
theorem dX8_askingsThatFit_5 : decode cX8_askingsThatFit 5 = .ok (.iload 4, 2) := by decide +kernel
theorem dX8_askingsThatFit_7 : decode cX8_askingsThatFit 7 = .ok (.invokevirtual 313, 3) := by decide +kernel
theorem dX8_askingsThatFit_10 : decode cX8_askingsThatFit 10 = .ok (.istore 7, 2) := by decide +kernel
theorem dX8_askingsThatFit_12 : decode cX8_askingsThatFit 12 = .ok (.iconst 0, 1) := by decide +kernel
theorem dX8_askingsThatFit_13 : decode cX8_askingsThatFit 13 = .ok (.istore 8, 2) := by decide +kernel
theorem dX8_askingsThatFit_15 : decode cX8_askingsThatFit 15 = .ok (.ldc 198, 2) := by decide +kernel
theorem dX8_askingsThatFit_17 : decode cX8_askingsThatFit 17 = .ok (.istore 9, 2) := by decide +kernel
theorem dX8_askingsThatFit_19 : decode cX8_askingsThatFit 19 = .ok (.aload_n 0, 1) := by decide +kernel
theorem dX8_askingsThatFit_20 : decode cX8_askingsThatFit 20 = .ok (.getfield 26, 3) := by decide +kernel
theorem dX8_askingsThatFit_23 : decode cX8_askingsThatFit 23 = .ok (.iload 7, 2) := by decide +kernel
theorem dX8_askingsThatFit_25 : decode cX8_askingsThatFit 25 = .ok (.invokevirtual 147, 3) := by decide +kernel
theorem dX8_askingsThatFit_28 : decode cX8_askingsThatFit 28 = .ok (.ifCond .ne 16, 3) := by decide +kernel
theorem dX8_askingsThatFit_31 : decode cX8_askingsThatFit 31 = .ok (.iload 6, 2) := by decide +kernel
theorem dX8_askingsThatFit_33 : decode cX8_askingsThatFit 33 = .ok (.ifCond .ne 8, 3) := by decide +kernel
theorem dX8_askingsThatFit_36 : decode cX8_askingsThatFit 36 = .ok (.iload 8, 2) := by decide +kernel
theorem dX8_askingsThatFit_38 : decode cX8_askingsThatFit 38 = .ok (.goto 5, 3) := by decide +kernel
theorem dX8_askingsThatFit_41 : decode cX8_askingsThatFit 41 = .ok (.iload 9, 2) := by decide +kernel
theorem dX8_askingsThatFit_43 : decode cX8_askingsThatFit 43 = .ok (.ireturn, 1) := by decide +kernel
theorem dX8_askingsThatFit_44 : decode cX8_askingsThatFit 44 = .ok (.aload_n 0, 1) := by decide +kernel
theorem dX8_askingsThatFit_45 : decode cX8_askingsThatFit 45 = .ok (.getfield 33, 3) := by decide +kernel
theorem dX8_askingsThatFit_48 : decode cX8_askingsThatFit 48 = .ok (.aload_n 0, 1) := by decide +kernel
theorem dX8_askingsThatFit_49 : decode cX8_askingsThatFit 49 = .ok (.getfield 26, 3) := by decide +kernel
theorem dX8_askingsThatFit_52 : decode cX8_askingsThatFit 52 = .ok (.invokevirtual 214, 3) := by decide +kernel
theorem dX8_askingsThatFit_55 : decode cX8_askingsThatFit 55 = .ok (.iconst 0, 1) := by decide +kernel
theorem dX8_askingsThatFit_56 : decode cX8_askingsThatFit 56 = .ok (.istore 10, 2) := by decide +kernel
theorem dX8_askingsThatFit_58 : decode cX8_askingsThatFit 58 = .ok (.iload 10, 2) := by decide +kernel
theorem dX8_askingsThatFit_60 : decode cX8_askingsThatFit 60 = .ok (.bipush 20, 2) := by decide +kernel
theorem dX8_askingsThatFit_62 : decode cX8_askingsThatFit 62 = .ok (.if_icmp .gt 101, 3) := by decide +kernel
theorem dX8_askingsThatFit_65 : decode cX8_askingsThatFit 65 = .ok (.aload_n 0, 1) := by decide +kernel
theorem dX8_askingsThatFit_66 : decode cX8_askingsThatFit 66 = .ok (.getfield 33, 3) := by decide +kernel
theorem dX8_askingsThatFit_69 : decode cX8_askingsThatFit 69 = .ok (.getfield 170, 3) := by decide +kernel
theorem dX8_askingsThatFit_72 : decode cX8_askingsThatFit 72 = .ok (.iload 7, 2) := by decide +kernel
theorem dX8_askingsThatFit_74 : decode cX8_askingsThatFit 74 = .ok (.iload 10, 2) := by decide +kernel
theorem dX8_askingsThatFit_76 : decode cX8_askingsThatFit 76 = .ok (.iastore, 1) := by decide +kernel
theorem dX8_askingsThatFit_77 : decode cX8_askingsThatFit 77 = .ok (.aload_n 0, 1) := by decide +kernel
theorem dX8_askingsThatFit_78 : decode cX8_askingsThatFit 78 = .ok (.getfield 50, 3) := by decide +kernel
theorem dX8_askingsThatFit_81 : decode cX8_askingsThatFit 81 = .ok (.aload_n 0, 1) := by decide +kernel
theorem dX8_askingsThatFit_82 : decode cX8_askingsThatFit 82 = .ok (.getfield 33, 3) := by decide +kernel
theorem dX8_askingsThatFit_85 : decode cX8_askingsThatFit 85 = .ok (.aload_n 0, 1) := by decide +kernel
theorem dX8_askingsThatFit_86 : decode cX8_askingsThatFit 86 = .ok (.getfield 33, 3) := by decide +kernel
theorem dX8_askingsThatFit_89 : decode cX8_askingsThatFit 89 = .ok (.getfield 179, 3) := by decide +kernel
theorem dX8_askingsThatFit_92 : decode cX8_askingsThatFit 92 = .ok (.iload_n 1, 1) := by decide +kernel
theorem dX8_askingsThatFit_93 : decode cX8_askingsThatFit 93 = .ok (.iaload, 1) := by decide +kernel
theorem dX8_askingsThatFit_94 : decode cX8_askingsThatFit 94 = .ok (.invokevirtual 182, 3) := by decide +kernel
theorem dX8_askingsThatFit_97 : decode cX8_askingsThatFit 97 = .ok (.aload_n 0, 1) := by decide +kernel
theorem dX8_askingsThatFit_98 : decode cX8_askingsThatFit 98 = .ok (.getfield 50, 3) := by decide +kernel
theorem dX8_askingsThatFit_101 : decode cX8_askingsThatFit 101 = .ok (.aload_n 0, 1) := by decide +kernel
theorem dX8_askingsThatFit_102 : decode cX8_askingsThatFit 102 = .ok (.getfield 33, 3) := by decide +kernel
theorem dX8_askingsThatFit_105 : decode cX8_askingsThatFit 105 = .ok (.iload_n 1, 1) := by decide +kernel
theorem dX8_askingsThatFit_106 : decode cX8_askingsThatFit 106 = .ok (.invokevirtual 186, 3) := by decide +kernel
theorem dX8_askingsThatFit_109 : decode cX8_askingsThatFit 109 = .ok (.ifCond .eq 48, 3) := by decide +kernel
theorem dX8_askingsThatFit_112 : decode cX8_askingsThatFit 112 = .ok (.aload_n 0, 1) := by decide +kernel
theorem dX8_askingsThatFit_113 : decode cX8_askingsThatFit 113 = .ok (.getfield 50, 3) := by decide +kernel
theorem dX8_askingsThatFit_116 : decode cX8_askingsThatFit 116 = .ok (.aload_n 0, 1) := by decide +kernel
theorem dX8_askingsThatFit_117 : decode cX8_askingsThatFit 117 = .ok (.getfield 33, 3) := by decide +kernel
theorem dX8_askingsThatFit_120 : decode cX8_askingsThatFit 120 = .ok (.iload_n 1, 1) := by decide +kernel
theorem dX8_askingsThatFit_121 : decode cX8_askingsThatFit 121 = .ok (.invokevirtual 194, 3) := by decide +kernel
theorem dX8_askingsThatFit_124 : decode cX8_askingsThatFit 124 = .ok (.iload 5, 2) := by decide +kernel
theorem dX8_askingsThatFit_126 : decode cX8_askingsThatFit 126 = .ok (.if_icmp .ne 31, 3) := by decide +kernel
theorem dX8_askingsThatFit_129 : decode cX8_askingsThatFit 129 = .ok (.aload_n 0, 1) := by decide +kernel
theorem dX8_askingsThatFit_130 : decode cX8_askingsThatFit 130 = .ok (.iload_n 2, 1) := by decide +kernel
theorem dX8_askingsThatFit_131 : decode cX8_askingsThatFit 131 = .ok (.iload_n 3, 1) := by decide +kernel
theorem dX8_askingsThatFit_132 : decode cX8_askingsThatFit 132 = .ok (.invokevirtual 316, 3) := by decide +kernel
theorem dX8_askingsThatFit_135 : decode cX8_askingsThatFit 135 = .ok (.ifCond .eq 22, 3) := by decide +kernel
theorem dX8_askingsThatFit_138 : decode cX8_askingsThatFit 138 = .ok (.iinc 8 1, 3) := by decide +kernel
theorem dX8_askingsThatFit_141 : decode cX8_askingsThatFit 141 = .ok (.iload 9, 2) := by decide +kernel
theorem dX8_askingsThatFit_143 : decode cX8_askingsThatFit 143 = .ok (.ldc 198, 2) := by decide +kernel
theorem dX8_askingsThatFit_145 : decode cX8_askingsThatFit 145 = .ok (.if_icmp .ne 8, 3) := by decide +kernel
theorem dX8_askingsThatFit_148 : decode cX8_askingsThatFit 148 = .ok (.iload 10, 2) := by decide +kernel
theorem dX8_askingsThatFit_150 : decode cX8_askingsThatFit 150 = .ok (.goto 5, 3) := by decide +kernel
theorem dX8_askingsThatFit_153 : decode cX8_askingsThatFit 153 = .ok (.iload 9, 2) := by decide +kernel
theorem dX8_askingsThatFit_155 : decode cX8_askingsThatFit 155 = .ok (.istore 9, 2) := by decide +kernel
theorem dX8_askingsThatFit_157 : decode cX8_askingsThatFit 157 = .ok (.iinc 10 1, 3) := by decide +kernel
theorem dX8_askingsThatFit_160 : decode cX8_askingsThatFit 160 = .ok (.goto (-102), 3) := by decide +kernel
theorem dX8_askingsThatFit_163 : decode cX8_askingsThatFit 163 = .ok (.iload 6, 2) := by decide +kernel
theorem dX8_askingsThatFit_165 : decode cX8_askingsThatFit 165 = .ok (.ifCond .ne 8, 3) := by decide +kernel
theorem dX8_askingsThatFit_168 : decode cX8_askingsThatFit 168 = .ok (.iload 8, 2) := by decide +kernel
theorem dX8_askingsThatFit_170 : decode cX8_askingsThatFit 170 = .ok (.goto 5, 3) := by decide +kernel
theorem dX8_askingsThatFit_173 : decode cX8_askingsThatFit 173 = .ok (.iload 9, 2) := by decide +kernel
theorem dX8_askingsThatFit_175 : decode cX8_askingsThatFit 175 = .ok (.ireturn, 1) := by decide +kernel
theorem dX8_isTrodden_0 : decode cX8_isTrodden 0 = .ok (.aload_n 0, 1) := by decide +kernel
theorem dX8_isTrodden_1 : decode cX8_isTrodden 1 = .ok (.getfield 50, 3) := by decide +kernel
theorem dX8_isTrodden_4 : decode cX8_isTrodden 4 = .ok (.invokevirtual 199, 3) := by decide +kernel
theorem dX8_isTrodden_7 : decode cX8_isTrodden 7 = .ok (.iload_n 2, 1) := by decide +kernel
theorem dX8_isTrodden_8 : decode cX8_isTrodden 8 = .ok (.if_icmp .eq 5, 3) := by decide +kernel
theorem dX8_isTrodden_11 : decode cX8_isTrodden 11 = .ok (.iconst 0, 1) := by decide +kernel
theorem dX8_isTrodden_12 : decode cX8_isTrodden 12 = .ok (.ireturn, 1) := by decide +kernel
theorem dX8_isTrodden_13 : decode cX8_isTrodden 13 = .ok (.iconst 0, 1) := by decide +kernel
theorem dX8_isTrodden_14 : decode cX8_isTrodden 14 = .ok (.istore_n 3, 1) := by decide +kernel
theorem dX8_isTrodden_15 : decode cX8_isTrodden 15 = .ok (.iload_n 3, 1) := by decide +kernel
theorem dX8_isTrodden_16 : decode cX8_isTrodden 16 = .ok (.iload_n 2, 1) := by decide +kernel
theorem dX8_isTrodden_17 : decode cX8_isTrodden 17 = .ok (.if_icmp .ge 31, 3) := by decide +kernel
theorem dX8_isTrodden_20 : decode cX8_isTrodden 20 = .ok (.aload_n 0, 1) := by decide +kernel
theorem dX8_isTrodden_21 : decode cX8_isTrodden 21 = .ok (.getfield 50, 3) := by decide +kernel
theorem dX8_isTrodden_24 : decode cX8_isTrodden 24 = .ok (.iload_n 3, 1) := by decide +kernel
theorem dX8_isTrodden_25 : decode cX8_isTrodden 25 = .ok (.invokevirtual 202, 3) := by decide +kernel
theorem dX8_isTrodden_28 : decode cX8_isTrodden 28 = .ok (.aload_n 0, 1) := by decide +kernel
theorem dX8_isTrodden_29 : decode cX8_isTrodden 29 = .ok (.getfield 10, 3) := by decide +kernel
theorem dX8_isTrodden_32 : decode cX8_isTrodden 32 = .ok (.iload_n 1, 1) := by decide +kernel
theorem dX8_isTrodden_33 : decode cX8_isTrodden 33 = .ok (.iload_n 3, 1) := by decide +kernel
theorem dX8_isTrodden_34 : decode cX8_isTrodden 34 = .ok (.invokevirtual 313, 3) := by decide +kernel
theorem dX8_isTrodden_37 : decode cX8_isTrodden 37 = .ok (.if_icmp .eq 5, 3) := by decide +kernel
theorem dX8_isTrodden_40 : decode cX8_isTrodden 40 = .ok (.iconst 0, 1) := by decide +kernel
theorem dX8_isTrodden_41 : decode cX8_isTrodden 41 = .ok (.ireturn, 1) := by decide +kernel
theorem dX8_isTrodden_42 : decode cX8_isTrodden 42 = .ok (.iinc 3 1, 3) := by decide +kernel
theorem dX8_isTrodden_45 : decode cX8_isTrodden 45 = .ok (.goto (-30), 3) := by decide +kernel
theorem dX8_isTrodden_48 : decode cX8_isTrodden 48 = .ok (.iconst 1, 1) := by decide +kernel
theorem dX8_isTrodden_49 : decode cX8_isTrodden 49 = .ok (.ireturn, 1) := by decide +kernel
theorem dX9_init_0 : decode cX9_init 0 = .ok (.aload_n 0, 1) := by decide +kernel
theorem dX9_init_1 : decode cX9_init 1 = .ok (.invokespecial 1, 3) := by decide +kernel
theorem dX9_init_4 : decode cX9_init 4 = .ok (.aload_n 0, 1) := by decide +kernel
theorem dX9_init_5 : decode cX9_init 5 = .ok (.bipush 8, 2) := by decide +kernel
theorem dX9_init_7 : decode cX9_init 7 = .ok (.newarray .int, 2) := by decide +kernel
theorem dX9_init_9 : decode cX9_init 9 = .ok (.dup, 1) := by decide +kernel
theorem dX9_init_10 : decode cX9_init 10 = .ok (.iconst 0, 1) := by decide +kernel
theorem dX9_init_11 : decode cX9_init 11 = .ok (.iconst (-1), 1) := by decide +kernel
theorem dX9_init_12 : decode cX9_init 12 = .ok (.iastore, 1) := by decide +kernel
theorem dX9_init_13 : decode cX9_init 13 = .ok (.dup, 1) := by decide +kernel
theorem dX9_init_14 : decode cX9_init 14 = .ok (.iconst 1, 1) := by decide +kernel
theorem dX9_init_15 : decode cX9_init 15 = .ok (.iconst (-1), 1) := by decide +kernel
theorem dX9_init_16 : decode cX9_init 16 = .ok (.iastore, 1) := by decide +kernel
theorem dX9_init_17 : decode cX9_init 17 = .ok (.dup, 1) := by decide +kernel
theorem dX9_init_18 : decode cX9_init 18 = .ok (.iconst 2, 1) := by decide +kernel
theorem dX9_init_19 : decode cX9_init 19 = .ok (.iconst (-1), 1) := by decide +kernel
theorem dX9_init_20 : decode cX9_init 20 = .ok (.iastore, 1) := by decide +kernel
theorem dX9_init_21 : decode cX9_init 21 = .ok (.dup, 1) := by decide +kernel
theorem dX9_init_22 : decode cX9_init 22 = .ok (.iconst 3, 1) := by decide +kernel
theorem dX9_init_23 : decode cX9_init 23 = .ok (.iconst (-1), 1) := by decide +kernel
theorem dX9_init_24 : decode cX9_init 24 = .ok (.iastore, 1) := by decide +kernel
theorem dX9_init_25 : decode cX9_init 25 = .ok (.dup, 1) := by decide +kernel
theorem dX9_init_26 : decode cX9_init 26 = .ok (.iconst 4, 1) := by decide +kernel
theorem dX9_init_27 : decode cX9_init 27 = .ok (.iconst (-1), 1) := by decide +kernel
theorem dX9_init_28 : decode cX9_init 28 = .ok (.iastore, 1) := by decide +kernel
theorem dX9_init_29 : decode cX9_init 29 = .ok (.dup, 1) := by decide +kernel
theorem dX9_init_30 : decode cX9_init 30 = .ok (.iconst 5, 1) := by decide +kernel
theorem dX9_init_31 : decode cX9_init 31 = .ok (.iconst (-1), 1) := by decide +kernel
theorem dX9_init_32 : decode cX9_init 32 = .ok (.iastore, 1) := by decide +kernel
theorem dX9_init_33 : decode cX9_init 33 = .ok (.dup, 1) := by decide +kernel
theorem dX9_init_34 : decode cX9_init 34 = .ok (.bipush 6, 2) := by decide +kernel
theorem dX9_init_36 : decode cX9_init 36 = .ok (.iconst (-1), 1) := by decide +kernel
theorem dX9_init_37 : decode cX9_init 37 = .ok (.iastore, 1) := by decide +kernel
theorem dX9_init_38 : decode cX9_init 38 = .ok (.dup, 1) := by decide +kernel
theorem dX9_init_39 : decode cX9_init 39 = .ok (.bipush 7, 2) := by decide +kernel
theorem dX9_init_41 : decode cX9_init 41 = .ok (.iconst (-1), 1) := by decide +kernel
theorem dX9_init_42 : decode cX9_init 42 = .ok (.iastore, 1) := by decide +kernel
theorem dX9_init_43 : decode cX9_init 43 = .ok (.putfield 7, 3) := by decide +kernel
theorem dX9_init_46 : decode cX9_init 46 = .ok (.aload_n 0, 1) := by decide +kernel
theorem dX9_init_47 : decode cX9_init 47 = .ok (.bipush 8, 2) := by decide +kernel
theorem dX9_init_49 : decode cX9_init 49 = .ok (.newarray .int, 2) := by decide +kernel
theorem dX9_init_51 : decode cX9_init 51 = .ok (.putfield 13, 3) := by decide +kernel
theorem dX9_init_54 : decode cX9_init 54 = .ok (.aload_n 0, 1) := by decide +kernel
theorem dX9_init_55 : decode cX9_init 55 = .ok (.sipush 320, 3) := by decide +kernel
theorem dX9_init_58 : decode cX9_init 58 = .ok (.newarray .int, 2) := by decide +kernel
theorem dX9_init_60 : decode cX9_init 60 = .ok (.putfield 16, 3) := by decide +kernel
theorem dX9_init_63 : decode cX9_init 63 = .ok (.aload_n 0, 1) := by decide +kernel
theorem dX9_init_64 : decode cX9_init 64 = .ok (.bipush 80, 2) := by decide +kernel
theorem dX9_init_66 : decode cX9_init 66 = .ok (.newarray .int, 2) := by decide +kernel
theorem dX9_init_68 : decode cX9_init 68 = .ok (.putfield 19, 3) := by decide +kernel
theorem dX9_init_71 : decode cX9_init 71 = .ok (.aload_n 0, 1) := by decide +kernel
theorem dX9_init_72 : decode cX9_init 72 = .ok (.bipush 80, 2) := by decide +kernel
theorem dX9_init_74 : decode cX9_init 74 = .ok (.newarray .int, 2) := by decide +kernel
theorem dX9_init_76 : decode cX9_init 76 = .ok (.putfield 22, 3) := by decide +kernel
theorem dX9_init_79 : decode cX9_init 79 = .ok (.aload_n 0, 1) := by decide +kernel
theorem dX9_init_80 : decode cX9_init 80 = .ok (.sipush 1920, 3) := by decide +kernel
theorem dX9_init_83 : decode cX9_init 83 = .ok (.newarray .int, 2) := by decide +kernel
theorem dX9_init_85 : decode cX9_init 85 = .ok (.putfield 25, 3) := by decide +kernel
theorem dX9_init_88 : decode cX9_init 88 = .ok (.aload_n 0, 1) := by decide +kernel
theorem dX9_init_89 : decode cX9_init 89 = .ok (.sipush 400, 3) := by decide +kernel
theorem dX9_init_92 : decode cX9_init 92 = .ok (.newarray .int, 2) := by decide +kernel
theorem dX9_init_94 : decode cX9_init 94 = .ok (.putfield 28, 3) := by decide +kernel
theorem dX9_init_97 : decode cX9_init 97 = .ok (.aload_n 0, 1) := by decide +kernel
theorem dX9_init_98 : decode cX9_init 98 = .ok (.bipush 18, 2) := by decide +kernel
theorem dX9_init_100 : decode cX9_init 100 = .ok (.newarray .int, 2) := by decide +kernel
theorem dX9_init_102 : decode cX9_init 102 = .ok (.putfield 31, 3) := by decide +kernel
theorem dX9_init_105 : decode cX9_init 105 = .ok (.aload_n 0, 1) := by decide +kernel
theorem dX9_init_106 : decode cX9_init 106 = .ok (.bipush 18, 2) := by decide +kernel
theorem dX9_init_108 : decode cX9_init 108 = .ok (.newarray .int, 2) := by decide +kernel
theorem dX9_init_110 : decode cX9_init 110 = .ok (.putfield 34, 3) := by decide +kernel
theorem dX9_init_113 : decode cX9_init 113 = .ok (.aload_n 0, 1) := by decide +kernel
theorem dX9_init_114 : decode cX9_init 114 = .ok (.bipush 19, 2) := by decide +kernel
theorem dX9_init_116 : decode cX9_init 116 = .ok (.newarray .int, 2) := by decide +kernel
theorem dX9_init_118 : decode cX9_init 118 = .ok (.putfield 37, 3) := by decide +kernel
theorem dX9_init_121 : decode cX9_init 121 = .ok (.aload_n 0, 1) := by decide +kernel
theorem dX9_init_122 : decode cX9_init 122 = .ok (.bipush 19, 2) := by decide +kernel
theorem dX9_init_124 : decode cX9_init 124 = .ok (.newarray .int, 2) := by decide +kernel
theorem dX9_init_126 : decode cX9_init 126 = .ok (.putfield 40, 3) := by decide +kernel
theorem dX9_init_129 : decode cX9_init 129 = .ok (.aload_n 0, 1) := by decide +kernel
theorem dX9_init_130 : decode cX9_init 130 = .ok (.bipush 19, 2) := by decide +kernel
theorem dX9_init_132 : decode cX9_init 132 = .ok (.newarray .int, 2) := by decide +kernel
theorem dX9_init_134 : decode cX9_init 134 = .ok (.putfield 43, 3) := by decide +kernel
theorem dX9_init_137 : decode cX9_init 137 = .ok (.aload_n 0, 1) := by decide +kernel
theorem dX9_init_138 : decode cX9_init 138 = .ok (.bipush 18, 2) := by decide +kernel
theorem dX9_init_140 : decode cX9_init 140 = .ok (.newarray .int, 2) := by decide +kernel
theorem dX9_init_142 : decode cX9_init 142 = .ok (.putfield 46, 3) := by decide +kernel
theorem dX9_init_145 : decode cX9_init 145 = .ok (.aload_n 0, 1) := by decide +kernel
theorem dX9_init_146 : decode cX9_init 146 = .ok (.iconst 2, 1) := by decide +kernel
theorem dX9_init_147 : decode cX9_init 147 = .ok (.newarray .boolean, 2) := by decide +kernel
theorem dX9_init_149 : decode cX9_init 149 = .ok (.putfield 49, 3) := by decide +kernel
theorem dX9_init_152 : decode cX9_init 152 = .ok (.aload_n 0, 1) := by decide +kernel
theorem dX9_init_153 : decode cX9_init 153 = .ok (.sipush 160, 3) := by decide +kernel
theorem dX9_init_156 : decode cX9_init 156 = .ok (.newarray .int, 2) := by decide +kernel
theorem dX9_init_158 : decode cX9_init 158 = .ok (.putfield 53, 3) := by decide +kernel
theorem dX9_init_161 : decode cX9_init 161 = .ok (.aload_n 0, 1) := by decide +kernel
theorem dX9_init_162 : decode cX9_init 162 = .ok (.bipush 16, 2) := by decide +kernel
theorem dX9_init_164 : decode cX9_init 164 = .ok (.newarray .int, 2) := by decide +kernel
theorem dX9_init_166 : decode cX9_init 166 = .ok (.putfield 56, 3) := by decide +kernel
theorem dX9_init_169 : decode cX9_init 169 = .ok (.return_, 1) := by decide +kernel
theorem dX9_in_0 : decode cX9_in 0 = .ok (.lload_n 0, 1) := by decide +kernel
theorem dX9_in_1 : decode cX9_in 1 = .ok (.lload_n 2, 1) := by decide +kernel
theorem dX9_in_2 : decode cX9_in 2 = .ok (.lcmp, 1) := by decide +kernel
theorem dX9_in_3 : decode cX9_in 3 = .ok (.ifCond .lt 14, 3) := by decide +kernel
theorem dX9_in_6 : decode cX9_in 6 = .ok (.lload_n 0, 1) := by decide +kernel
theorem dX9_in_7 : decode cX9_in 7 = .ok (.lload 4, 2) := by decide +kernel
theorem dX9_in_9 : decode cX9_in 9 = .ok (.lcmp, 1) := by decide +kernel
theorem dX9_in_10 : decode cX9_in 10 = .ok (.ifCond .gt 7, 3) := by decide +kernel
theorem dX9_in_13 : decode cX9_in 13 = .ok (.iconst 1, 1) := by decide +kernel
theorem dX9_in_14 : decode cX9_in 14 = .ok (.goto 4, 3) := by decide +kernel
theorem dX9_in_17 : decode cX9_in 17 = .ok (.iconst 0, 1) := by decide +kernel
theorem dX9_in_18 : decode cX9_in 18 = .ok (.ireturn, 1) := by decide +kernel
theorem dX9_finding_0 : decode cX9_finding 0 = .ok (.aload_n 0, 1) := by decide +kernel
theorem dX9_finding_1 : decode cX9_finding 1 = .ok (.iload_n 1, 1) := by decide +kernel
theorem dX9_finding_2 : decode cX9_finding 2 = .ok (.putfield 63, 3) := by decide +kernel
theorem dX9_finding_5 : decode cX9_finding 5 = .ok (.ldc 66, 2) := by decide +kernel
theorem dX9_finding_7 : decode cX9_finding 7 = .ok (.iload_n 1, 1) := by decide +kernel
theorem dX9_finding_8 : decode cX9_finding 8 = .ok (.isub, 1) := by decide +kernel
theorem dX9_finding_9 : decode cX9_finding 9 = .ok (.ireturn, 1) := by decide +kernel
theorem dX9_isRow_0 : decode cX9_isRow 0 = .ok (.iload_n 0, 1) := by decide +kernel
theorem dX9_isRow_1 : decode cX9_isRow 1 = .ok (.i2l, 1) := by decide +kernel
theorem dX9_isRow_2 : decode cX9_isRow 2 = .ok (.lconst 0, 1) := by decide +kernel
theorem dX9_isRow_3 : decode cX9_isRow 3 = .ok (.ldc2_w 67, 3) := by decide +kernel
theorem dX9_isRow_6 : decode cX9_isRow 6 = .ok (.invokestatic 69, 3) := by decide +kernel
theorem dX9_isRow_9 : decode cX9_isRow 9 = .ok (.ireturn, 1) := by decide +kernel
theorem dX9_row_0 : decode cX9_row 0 = .ok (.aload_n 0, 1) := by decide +kernel
theorem dX9_row_1 : decode cX9_row 1 = .ok (.iconst 0, 1) := by decide +kernel
theorem dX9_row_2 : decode cX9_row 2 = .ok (.putfield 59, 3) := by decide +kernel
theorem dX9_row_5 : decode cX9_row 5 = .ok (.iload_n 1, 1) := by decide +kernel
theorem dX9_row_6 : decode cX9_row 6 = .ok (.invokestatic 73, 3) := by decide +kernel
theorem dX9_row_9 : decode cX9_row 9 = .ok (.ifCond .eq 21, 3) := by decide +kernel
theorem dX9_row_12 : decode cX9_row 12 = .ok (.iload_n 2, 1) := by decide +kernel
theorem dX9_row_13 : decode cX9_row 13 = .ok (.i2l, 1) := by decide +kernel
theorem dX9_row_14 : decode cX9_row 14 = .ok (.lconst 0, 1) := by decide +kernel
theorem dX9_row_15 : decode cX9_row 15 = .ok (.ldc2_w 77, 3) := by decide +kernel
theorem dX9_row_18 : decode cX9_row 18 = .ok (.invokestatic 69, 3) := by decide +kernel
theorem dX9_row_21 : decode cX9_row 21 = .ok (.ifCond .eq 9, 3) := by decide +kernel
theorem dX9_row_24 : decode cX9_row 24 = .ok (.iload_n 3, 1) := by decide +kernel
theorem dX9_row_25 : decode cX9_row 25 = .ok (.bipush 40, 2) := by decide +kernel
theorem dX9_row_27 : decode cX9_row 27 = .ok (.if_icmp .le 6, 3) := by decide +kernel
theorem dX9_row_30 : decode cX9_row 30 = .ok (.ldc 79, 2) := by decide +kernel
theorem dX9_row_32 : decode cX9_row 32 = .ok (.ireturn, 1) := by decide +kernel
theorem dX9_row_33 : decode cX9_row 33 = .ok (.aload_n 0, 1) := by decide +kernel
theorem dX9_row_34 : decode cX9_row 34 = .ok (.iconst 0, 1) := by decide +kernel
theorem dX9_row_35 : decode cX9_row 35 = .ok (.putfield 63, 3) := by decide +kernel
theorem dX9_row_38 : decode cX9_row 38 = .ok (.iload_n 3, 1) := by decide +kernel
theorem dX9_row_39 : decode cX9_row 39 = .ok (.ifCond .ge 9, 3) := by decide +kernel
theorem dX9_row_42 : decode cX9_row 42 = .ok (.aload_n 0, 1) := by decide +kernel
theorem dX9_row_43 : decode cX9_row 43 = .ok (.iconst 4, 1) := by decide +kernel
theorem dX9_row_44 : decode cX9_row 44 = .ok (.invokevirtual 80, 3) := by decide +kernel
theorem dX9_row_47 : decode cX9_row 47 = .ok (.ireturn, 1) := by decide +kernel
theorem dX9_row_48 : decode cX9_row 48 = .ok (.aload_n 0, 1) := by decide +kernel
theorem dX9_row_49 : decode cX9_row 49 = .ok (.getfield 7, 3) := by decide +kernel
theorem dX9_row_52 : decode cX9_row 52 = .ok (.iload_n 1, 1) := by decide +kernel
theorem dX9_row_53 : decode cX9_row 53 = .ok (.iload_n 2, 1) := by decide +kernel
theorem dX9_row_54 : decode cX9_row 54 = .ok (.iastore, 1) := by decide +kernel
theorem dX9_row_55 : decode cX9_row 55 = .ok (.aload_n 0, 1) := by decide +kernel
theorem dX9_row_56 : decode cX9_row 56 = .ok (.getfield 13, 3) := by decide +kernel
theorem dX9_row_59 : decode cX9_row 59 = .ok (.iload_n 1, 1) := by decide +kernel
theorem dX9_row_60 : decode cX9_row 60 = .ok (.iload_n 3, 1) := by decide +kernel
theorem dX9_row_61 : decode cX9_row 61 = .ok (.iastore, 1) := by decide +kernel
theorem dX9_row_62 : decode cX9_row 62 = .ok (.iconst 0, 1) := by decide +kernel
theorem dX9_row_63 : decode cX9_row 63 = .ok (.istore 4, 2) := by decide +kernel
theorem dX9_row_65 : decode cX9_row 65 = .ok (.iload 4, 2) := by decide +kernel
theorem dX9_row_67 : decode cX9_row 67 = .ok (.bipush 40, 2) := by decide +kernel
theorem dX9_row_69 : decode cX9_row 69 = .ok (.if_icmp .ge 22, 3) := by decide +kernel
theorem dX9_row_72 : decode cX9_row 72 = .ok (.aload_n 0, 1) := by decide +kernel
theorem dX9_row_73 : decode cX9_row 73 = .ok (.getfield 16, 3) := by decide +kernel
theorem dX9_row_76 : decode cX9_row 76 = .ok (.bipush 40, 2) := by decide +kernel
theorem dX9_row_78 : decode cX9_row 78 = .ok (.iload_n 1, 1) := by decide +kernel
theorem dX9_row_79 : decode cX9_row 79 = .ok (.imul, 1) := by decide +kernel
theorem dX9_row_80 : decode cX9_row 80 = .ok (.iload 4, 2) := by decide +kernel
theorem dX9_row_82 : decode cX9_row 82 = .ok (.iadd, 1) := by decide +kernel
theorem dX9_row_83 : decode cX9_row 83 = .ok (.iconst 0, 1) := by decide +kernel
theorem dX9_row_84 : decode cX9_row 84 = .ok (.iastore, 1) := by decide +kernel
theorem dX9_row_85 : decode cX9_row 85 = .ok (.iinc 4 1, 3) := by decide +kernel
theorem dX9_row_88 : decode cX9_row 88 = .ok (.goto (-23), 3) := by decide +kernel
theorem dX9_row_91 : decode cX9_row 91 = .ok (.iload_n 3, 1) := by decide +kernel
theorem dX9_row_92 : decode cX9_row 92 = .ok (.ireturn, 1) := by decide +kernel
theorem dX9_set_0 : decode cX9_set 0 = .ok (.aload_n 0, 1) := by decide +kernel
theorem dX9_set_1 : decode cX9_set 1 = .ok (.iconst 0, 1) := by decide +kernel
theorem dX9_set_2 : decode cX9_set 2 = .ok (.putfield 59, 3) := by decide +kernel
theorem dX9_set_5 : decode cX9_set 5 = .ok (.iload_n 1, 1) := by decide +kernel
theorem dX9_set_6 : decode cX9_set 6 = .ok (.invokestatic 73, 3) := by decide +kernel
theorem dX9_set_9 : decode cX9_set 9 = .ok (.ifCond .ne 6, 3) := by decide +kernel
theorem dX9_set_12 : decode cX9_set 12 = .ok (.ldc 79, 2) := by decide +kernel
theorem dX9_set_14 : decode cX9_set 14 = .ok (.ireturn, 1) := by decide +kernel
theorem dX9_set_15 : decode cX9_set 15 = .ok (.aload_n 0, 1) := by decide +kernel
theorem dX9_set_16 : decode cX9_set 16 = .ok (.iconst 0, 1) := by decide +kernel
theorem dX9_set_17 : decode cX9_set 17 = .ok (.putfield 63, 3) := by decide +kernel
theorem dX9_set_20 : decode cX9_set 20 = .ok (.aload_n 0, 1) := by decide +kernel
theorem dX9_set_21 : decode cX9_set 21 = .ok (.getfield 7, 3) := by decide +kernel
theorem dX9_set_24 : decode cX9_set 24 = .ok (.iload_n 1, 1) := by decide +kernel
theorem dX9_set_25 : decode cX9_set 25 = .ok (.iaload, 1) := by decide +kernel
theorem dX9_set_26 : decode cX9_set 26 = .ok (.ifCond .ge 9, 3) := by decide +kernel
theorem dX9_set_29 : decode cX9_set 29 = .ok (.aload_n 0, 1) := by decide +kernel
theorem dX9_set_30 : decode cX9_set 30 = .ok (.iconst 1, 1) := by decide +kernel
theorem dX9_set_31 : decode cX9_set 31 = .ok (.invokevirtual 80, 3) := by decide +kernel
theorem dX9_set_34 : decode cX9_set 34 = .ok (.ireturn, 1) := by decide +kernel
theorem dX9_set_35 : decode cX9_set 35 = .ok (.iload_n 2, 1) := by decide +kernel
theorem dX9_set_36 : decode cX9_set 36 = .ok (.i2l, 1) := by decide +kernel
theorem dX9_set_37 : decode cX9_set 37 = .ok (.lconst 0, 1) := by decide +kernel
theorem dX9_set_38 : decode cX9_set 38 = .ok (.aload_n 0, 1) := by decide +kernel
theorem dX9_set_39 : decode cX9_set 39 = .ok (.getfield 13, 3) := by decide +kernel
theorem dX9_set_42 : decode cX9_set 42 = .ok (.iload_n 1, 1) := by decide +kernel
theorem dX9_set_43 : decode cX9_set 43 = .ok (.iaload, 1) := by decide +kernel
theorem dX9_set_44 : decode cX9_set 44 = .ok (.iconst 1, 1) := by decide +kernel
theorem dX9_set_45 : decode cX9_set 45 = .ok (.isub, 1) := by decide +kernel
theorem dX9_set_46 : decode cX9_set 46 = .ok (.i2l, 1) := by decide +kernel
theorem dX9_set_47 : decode cX9_set 47 = .ok (.invokestatic 69, 3) := by decide +kernel
theorem dX9_set_50 : decode cX9_set 50 = .ok (.ifCond .ne 9, 3) := by decide +kernel
theorem dX9_set_53 : decode cX9_set 53 = .ok (.aload_n 0, 1) := by decide +kernel
theorem dX9_set_54 : decode cX9_set 54 = .ok (.iconst 2, 1) := by decide +kernel
theorem dX9_set_55 : decode cX9_set 55 = .ok (.invokevirtual 80, 3) := by decide +kernel
theorem dX9_set_58 : decode cX9_set 58 = .ok (.ireturn, 1) := by decide +kernel
theorem dX9_set_59 : decode cX9_set 59 = .ok (.aload_n 0, 1) := by decide +kernel
theorem dX9_set_60 : decode cX9_set 60 = .ok (.getfield 16, 3) := by decide +kernel
theorem dX9_set_63 : decode cX9_set 63 = .ok (.bipush 40, 2) := by decide +kernel
theorem dX9_set_65 : decode cX9_set 65 = .ok (.iload_n 1, 1) := by decide +kernel
theorem dX9_set_66 : decode cX9_set 66 = .ok (.imul, 1) := by decide +kernel
theorem dX9_set_67 : decode cX9_set 67 = .ok (.iload_n 2, 1) := by decide +kernel
theorem dX9_set_68 : decode cX9_set 68 = .ok (.iadd, 1) := by decide +kernel
theorem dX9_set_69 : decode cX9_set 69 = .ok (.aload_n 0, 1) := by decide +kernel
theorem dX9_set_70 : decode cX9_set 70 = .ok (.getfield 7, 3) := by decide +kernel
theorem dX9_set_73 : decode cX9_set 73 = .ok (.iload_n 1, 1) := by decide +kernel
theorem dX9_set_74 : decode cX9_set 74 = .ok (.iaload, 1) := by decide +kernel
theorem dX9_set_75 : decode cX9_set 75 = .ok (.ifCond .ne 8, 3) := by decide +kernel
theorem dX9_set_78 : decode cX9_set 78 = .ok (.iload_n 3, 1) := by decide +kernel
theorem dX9_set_79 : decode cX9_set 79 = .ok (.i2b, 1) := by decide +kernel
theorem dX9_set_80 : decode cX9_set 80 = .ok (.goto 19, 3) := by decide +kernel
theorem dX9_set_83 : decode cX9_set 83 = .ok (.aload_n 0, 1) := by decide +kernel
theorem dX9_set_84 : decode cX9_set 84 = .ok (.getfield 7, 3) := by decide +kernel
theorem dX9_set_87 : decode cX9_set 87 = .ok (.iload_n 1, 1) := by decide +kernel
theorem dX9_set_88 : decode cX9_set 88 = .ok (.iaload, 1) := by decide +kernel
theorem dX9_set_89 : decode cX9_set 89 = .ok (.iconst 1, 1) := by decide +kernel
theorem dX9_set_90 : decode cX9_set 90 = .ok (.if_icmp .ne 8, 3) := by decide +kernel
theorem dX9_set_93 : decode cX9_set 93 = .ok (.iload_n 3, 1) := by decide +kernel
theorem dX9_set_94 : decode cX9_set 94 = .ok (.i2s, 1) := by decide +kernel
theorem dX9_set_95 : decode cX9_set 95 = .ok (.goto 4, 3) := by decide +kernel
theorem dX9_set_98 : decode cX9_set 98 = .ok (.iload_n 3, 1) := by decide +kernel
theorem dX9_set_99 : decode cX9_set 99 = .ok (.iastore, 1) := by decide +kernel
theorem dX9_set_100 : decode cX9_set 100 = .ok (.aload_n 0, 1) := by decide +kernel
theorem dX9_set_101 : decode cX9_set 101 = .ok (.getfield 16, 3) := by decide +kernel
theorem dX9_set_104 : decode cX9_set 104 = .ok (.bipush 40, 2) := by decide +kernel
theorem dX9_set_106 : decode cX9_set 106 = .ok (.iload_n 1, 1) := by decide +kernel
theorem dX9_set_107 : decode cX9_set 107 = .ok (.imul, 1) := by decide +kernel
theorem dX9_set_108 : decode cX9_set 108 = .ok (.iload_n 2, 1) := by decide +kernel
theorem dX9_set_109 : decode cX9_set 109 = .ok (.iadd, 1) := by decide +kernel
theorem dX9_set_110 : decode cX9_set 110 = .ok (.iaload, 1) := by decide +kernel
theorem dX9_set_111 : decode cX9_set 111 = .ok (.ireturn, 1) := by decide +kernel
theorem dX9_copy_0 : decode cX9_copy 0 = .ok (.aload_n 0, 1) := by decide +kernel
theorem dX9_copy_1 : decode cX9_copy 1 = .ok (.iconst 0, 1) := by decide +kernel
theorem dX9_copy_2 : decode cX9_copy 2 = .ok (.putfield 59, 3) := by decide +kernel
theorem dX9_copy_5 : decode cX9_copy 5 = .ok (.iload_n 1, 1) := by decide +kernel
theorem dX9_copy_6 : decode cX9_copy 6 = .ok (.invokestatic 73, 3) := by decide +kernel
theorem dX9_copy_9 : decode cX9_copy 9 = .ok (.ifCond .eq 10, 3) := by decide +kernel
theorem dX9_copy_12 : decode cX9_copy 12 = .ok (.iload_n 3, 1) := by decide +kernel
theorem dX9_copy_13 : decode cX9_copy 13 = .ok (.invokestatic 73, 3) := by decide +kernel
theorem dX9_copy_16 : decode cX9_copy 16 = .ok (.ifCond .ne 6, 3) := by decide +kernel
theorem dX9_copy_19 : decode cX9_copy 19 = .ok (.ldc 79, 2) := by decide +kernel
theorem dX9_copy_21 : decode cX9_copy 21 = .ok (.ireturn, 1) := by decide +kernel
theorem dX9_copy_22 : decode cX9_copy 22 = .ok (.aload_n 0, 1) := by decide +kernel
theorem dX9_copy_23 : decode cX9_copy 23 = .ok (.iconst 0, 1) := by decide +kernel
theorem dX9_copy_24 : decode cX9_copy 24 = .ok (.putfield 63, 3) := by decide +kernel
theorem dX9_copy_27 : decode cX9_copy 27 = .ok (.aload_n 0, 1) := by decide +kernel
theorem dX9_copy_28 : decode cX9_copy 28 = .ok (.getfield 7, 3) := by decide +kernel
theorem dX9_copy_31 : decode cX9_copy 31 = .ok (.iload_n 1, 1) := by decide +kernel
theorem dX9_copy_32 : decode cX9_copy 32 = .ok (.iaload, 1) := by decide +kernel
theorem dX9_copy_33 : decode cX9_copy 33 = .ok (.ifCond .lt 12, 3) := by decide +kernel
theorem dX9_copy_36 : decode cX9_copy 36 = .ok (.aload_n 0, 1) := by decide +kernel
theorem dX9_copy_37 : decode cX9_copy 37 = .ok (.getfield 7, 3) := by decide +kernel
theorem dX9_copy_40 : decode cX9_copy 40 = .ok (.iload_n 3, 1) := by decide +kernel
theorem dX9_copy_41 : decode cX9_copy 41 = .ok (.iaload, 1) := by decide +kernel
theorem dX9_copy_42 : decode cX9_copy 42 = .ok (.ifCond .ge 9, 3) := by decide +kernel
theorem dX9_copy_45 : decode cX9_copy 45 = .ok (.aload_n 0, 1) := by decide +kernel
theorem dX9_copy_46 : decode cX9_copy 46 = .ok (.iconst 1, 1) := by decide +kernel
theorem dX9_copy_47 : decode cX9_copy 47 = .ok (.invokevirtual 80, 3) := by decide +kernel
theorem dX9_copy_50 : decode cX9_copy 50 = .ok (.ireturn, 1) := by decide +kernel
theorem dX9_copy_51 : decode cX9_copy 51 = .ok (.aload_n 0, 1) := by decide +kernel
theorem dX9_copy_52 : decode cX9_copy 52 = .ok (.getfield 7, 3) := by decide +kernel
theorem dX9_copy_55 : decode cX9_copy 55 = .ok (.iload_n 1, 1) := by decide +kernel
theorem dX9_copy_56 : decode cX9_copy 56 = .ok (.iaload, 1) := by decide +kernel
theorem dX9_copy_57 : decode cX9_copy 57 = .ok (.aload_n 0, 1) := by decide +kernel
theorem dX9_copy_58 : decode cX9_copy 58 = .ok (.getfield 7, 3) := by decide +kernel
theorem dX9_copy_61 : decode cX9_copy 61 = .ok (.iload_n 3, 1) := by decide +kernel
theorem dX9_copy_62 : decode cX9_copy 62 = .ok (.iaload, 1) := by decide +kernel
theorem dX9_copy_63 : decode cX9_copy 63 = .ok (.if_icmp .eq 9, 3) := by decide +kernel
theorem dX9_copy_66 : decode cX9_copy 66 = .ok (.aload_n 0, 1) := by decide +kernel
theorem dX9_copy_67 : decode cX9_copy 67 = .ok (.iconst 5, 1) := by decide +kernel
theorem dX9_copy_68 : decode cX9_copy 68 = .ok (.invokevirtual 80, 3) := by decide +kernel
theorem dX9_copy_71 : decode cX9_copy 71 = .ok (.ireturn, 1) := by decide +kernel
theorem dX9_copy_72 : decode cX9_copy 72 = .ok (.iload_n 2, 1) := by decide +kernel
theorem dX9_copy_73 : decode cX9_copy 73 = .ok (.ifCond .lt 48, 3) := by decide +kernel
theorem dX9_copy_76 : decode cX9_copy 76 = .ok (.iload 4, 2) := by decide +kernel
theorem dX9_copy_78 : decode cX9_copy 78 = .ok (.ifCond .lt 43, 3) := by decide +kernel
theorem dX9_copy_81 : decode cX9_copy 81 = .ok (.iload 5, 2) := by decide +kernel
theorem dX9_copy_83 : decode cX9_copy 83 = .ok (.ifCond .lt 38, 3) := by decide +kernel
theorem dX9_copy_86 : decode cX9_copy 86 = .ok (.iload_n 2, 1) := by decide +kernel
theorem dX9_copy_87 : decode cX9_copy 87 = .ok (.i2l, 1) := by decide +kernel
theorem dX9_copy_88 : decode cX9_copy 88 = .ok (.iload 5, 2) := by decide +kernel
theorem dX9_copy_90 : decode cX9_copy 90 = .ok (.i2l, 1) := by decide +kernel
theorem dX9_copy_91 : decode cX9_copy 91 = .ok (.ladd, 1) := by decide +kernel
theorem dX9_copy_92 : decode cX9_copy 92 = .ok (.aload_n 0, 1) := by decide +kernel
theorem dX9_copy_93 : decode cX9_copy 93 = .ok (.getfield 13, 3) := by decide +kernel
theorem dX9_copy_96 : decode cX9_copy 96 = .ok (.iload_n 1, 1) := by decide +kernel
theorem dX9_copy_97 : decode cX9_copy 97 = .ok (.iaload, 1) := by decide +kernel
theorem dX9_copy_98 : decode cX9_copy 98 = .ok (.i2l, 1) := by decide +kernel
theorem dX9_copy_99 : decode cX9_copy 99 = .ok (.lcmp, 1) := by decide +kernel
theorem dX9_copy_100 : decode cX9_copy 100 = .ok (.ifCond .gt 21, 3) := by decide +kernel
theorem dX9_copy_103 : decode cX9_copy 103 = .ok (.iload 4, 2) := by decide +kernel
theorem dX9_copy_105 : decode cX9_copy 105 = .ok (.i2l, 1) := by decide +kernel
theorem dX9_copy_106 : decode cX9_copy 106 = .ok (.iload 5, 2) := by decide +kernel
theorem dX9_copy_108 : decode cX9_copy 108 = .ok (.i2l, 1) := by decide +kernel
theorem dX9_copy_109 : decode cX9_copy 109 = .ok (.ladd, 1) := by decide +kernel
theorem dX9_copy_110 : decode cX9_copy 110 = .ok (.aload_n 0, 1) := by decide +kernel
theorem dX9_copy_111 : decode cX9_copy 111 = .ok (.getfield 13, 3) := by decide +kernel
theorem dX9_copy_114 : decode cX9_copy 114 = .ok (.iload_n 3, 1) := by decide +kernel
theorem dX9_copy_115 : decode cX9_copy 115 = .ok (.iaload, 1) := by decide +kernel
theorem dX9_copy_116 : decode cX9_copy 116 = .ok (.i2l, 1) := by decide +kernel
theorem dX9_copy_117 : decode cX9_copy 117 = .ok (.lcmp, 1) := by decide +kernel
theorem dX9_copy_118 : decode cX9_copy 118 = .ok (.ifCond .le 9, 3) := by decide +kernel
theorem dX9_copy_121 : decode cX9_copy 121 = .ok (.aload_n 0, 1) := by decide +kernel
theorem dX9_copy_122 : decode cX9_copy 122 = .ok (.iconst 2, 1) := by decide +kernel
theorem dX9_copy_123 : decode cX9_copy 123 = .ok (.invokevirtual 80, 3) := by decide +kernel
theorem dX9_copy_126 : decode cX9_copy 126 = .ok (.ireturn, 1) := by decide +kernel
theorem dX9_copy_127 : decode cX9_copy 127 = .ok (.iload_n 2, 1) := by decide +kernel
theorem dX9_copy_128 : decode cX9_copy 128 = .ok (.iload 4, 2) := by decide +kernel
theorem dX9_copy_130 : decode cX9_copy 130 = .ok (.if_icmp .lt 7, 3) := by decide +kernel
theorem dX9_copy_133 : decode cX9_copy 133 = .ok (.iconst 1, 1) := by decide +kernel
theorem dX9_copy_134 : decode cX9_copy 134 = .ok (.goto 4, 3) := by decide +kernel
theorem dX9_copy_137 : decode cX9_copy 137 = .ok (.iconst 0, 1) := by decide +kernel
theorem dX9_copy_138 : decode cX9_copy 138 = .ok (.istore 6, 2) := by decide +kernel
theorem dX9_copy_140 : decode cX9_copy 140 = .ok (.iconst 0, 1) := by decide +kernel
theorem dX9_copy_141 : decode cX9_copy 141 = .ok (.istore 7, 2) := by decide +kernel
theorem dX9_copy_143 : decode cX9_copy 143 = .ok (.iload 7, 2) := by decide +kernel
theorem dX9_copy_145 : decode cX9_copy 145 = .ok (.iload 5, 2) := by decide +kernel
theorem dX9_copy_147 : decode cX9_copy 147 = .ok (.if_icmp .ge 57, 3) := by decide +kernel
theorem dX9_copy_150 : decode cX9_copy 150 = .ok (.iload 6, 2) := by decide +kernel
theorem dX9_copy_152 : decode cX9_copy 152 = .ok (.ifCond .eq 8, 3) := by decide +kernel
theorem dX9_copy_155 : decode cX9_copy 155 = .ok (.iload 7, 2) := by decide +kernel
theorem dX9_copy_157 : decode cX9_copy 157 = .ok (.goto 10, 3) := by decide +kernel
theorem dX9_copy_160 : decode cX9_copy 160 = .ok (.iload 5, 2) := by decide +kernel
theorem dX9_copy_162 : decode cX9_copy 162 = .ok (.iconst 1, 1) := by decide +kernel
theorem dX9_copy_163 : decode cX9_copy 163 = .ok (.isub, 1) := by decide +kernel
theorem dX9_copy_164 : decode cX9_copy 164 = .ok (.iload 7, 2) := by decide +kernel
theorem dX9_copy_166 : decode cX9_copy 166 = .ok (.isub, 1) := by decide +kernel
theorem dX9_copy_167 : decode cX9_copy 167 = .ok (.istore 8, 2) := by decide +kernel
theorem dX9_copy_169 : decode cX9_copy 169 = .ok (.aload_n 0, 1) := by decide +kernel
theorem dX9_copy_170 : decode cX9_copy 170 = .ok (.getfield 16, 3) := by decide +kernel
theorem dX9_copy_173 : decode cX9_copy 173 = .ok (.bipush 40, 2) := by decide +kernel
theorem dX9_copy_175 : decode cX9_copy 175 = .ok (.iload_n 3, 1) := by decide +kernel
theorem dX9_copy_176 : decode cX9_copy 176 = .ok (.imul, 1) := by decide +kernel
theorem dX9_copy_177 : decode cX9_copy 177 = .ok (.iload 4, 2) := by decide +kernel
theorem dX9_copy_179 : decode cX9_copy 179 = .ok (.iadd, 1) := by decide +kernel
theorem dX9_copy_180 : decode cX9_copy 180 = .ok (.iload 8, 2) := by decide +kernel
theorem dX9_copy_182 : decode cX9_copy 182 = .ok (.iadd, 1) := by decide +kernel
theorem dX9_copy_183 : decode cX9_copy 183 = .ok (.aload_n 0, 1) := by decide +kernel
theorem dX9_copy_184 : decode cX9_copy 184 = .ok (.getfield 16, 3) := by decide +kernel
theorem dX9_copy_187 : decode cX9_copy 187 = .ok (.bipush 40, 2) := by decide +kernel
theorem dX9_copy_189 : decode cX9_copy 189 = .ok (.iload_n 1, 1) := by decide +kernel
theorem dX9_copy_190 : decode cX9_copy 190 = .ok (.imul, 1) := by decide +kernel
theorem dX9_copy_191 : decode cX9_copy 191 = .ok (.iload_n 2, 1) := by decide +kernel
theorem dX9_copy_192 : decode cX9_copy 192 = .ok (.iadd, 1) := by decide +kernel
theorem dX9_copy_193 : decode cX9_copy 193 = .ok (.iload 8, 2) := by decide +kernel
theorem dX9_copy_195 : decode cX9_copy 195 = .ok (.iadd, 1) := by decide +kernel
theorem dX9_copy_196 : decode cX9_copy 196 = .ok (.iaload, 1) := by decide +kernel
theorem dX9_copy_197 : decode cX9_copy 197 = .ok (.iastore, 1) := by decide +kernel
theorem dX9_copy_198 : decode cX9_copy 198 = .ok (.iinc 7 1, 3) := by decide +kernel
theorem dX9_copy_201 : decode cX9_copy 201 = .ok (.goto (-58), 3) := by decide +kernel
theorem dX9_copy_204 : decode cX9_copy 204 = .ok (.iload 5, 2) := by decide +kernel
theorem dX9_copy_206 : decode cX9_copy 206 = .ok (.ireturn, 1) := by decide +kernel
theorem dX9_drop_0 : decode cX9_drop 0 = .ok (.aload_n 0, 1) := by decide +kernel
theorem dX9_drop_1 : decode cX9_drop 1 = .ok (.iconst 0, 1) := by decide +kernel
theorem dX9_drop_2 : decode cX9_drop 2 = .ok (.putfield 59, 3) := by decide +kernel
theorem dX9_drop_5 : decode cX9_drop 5 = .ok (.iload_n 1, 1) := by decide +kernel
theorem dX9_drop_6 : decode cX9_drop 6 = .ok (.invokestatic 73, 3) := by decide +kernel
theorem dX9_drop_9 : decode cX9_drop 9 = .ok (.ifCond .ne 6, 3) := by decide +kernel
theorem dX9_drop_12 : decode cX9_drop 12 = .ok (.ldc 79, 2) := by decide +kernel
theorem dX9_drop_14 : decode cX9_drop 14 = .ok (.ireturn, 1) := by decide +kernel
theorem dX9_drop_15 : decode cX9_drop 15 = .ok (.aload_n 0, 1) := by decide +kernel
theorem dX9_drop_16 : decode cX9_drop 16 = .ok (.iconst 0, 1) := by decide +kernel
theorem dX9_drop_17 : decode cX9_drop 17 = .ok (.putfield 63, 3) := by decide +kernel
theorem dX9_drop_20 : decode cX9_drop 20 = .ok (.aload_n 0, 1) := by decide +kernel
theorem dX9_drop_21 : decode cX9_drop 21 = .ok (.getfield 7, 3) := by decide +kernel
theorem dX9_drop_24 : decode cX9_drop 24 = .ok (.iload_n 1, 1) := by decide +kernel
theorem dX9_drop_25 : decode cX9_drop 25 = .ok (.iaload, 1) := by decide +kernel
theorem dX9_drop_26 : decode cX9_drop 26 = .ok (.ifCond .ge 9, 3) := by decide +kernel
theorem dX9_drop_29 : decode cX9_drop 29 = .ok (.aload_n 0, 1) := by decide +kernel
theorem dX9_drop_30 : decode cX9_drop 30 = .ok (.iconst 1, 1) := by decide +kernel
theorem dX9_drop_31 : decode cX9_drop 31 = .ok (.invokevirtual 80, 3) := by decide +kernel
theorem dX9_drop_34 : decode cX9_drop 34 = .ok (.ireturn, 1) := by decide +kernel
theorem dX9_drop_35 : decode cX9_drop 35 = .ok (.aload_n 0, 1) := by decide +kernel
theorem dX9_drop_36 : decode cX9_drop 36 = .ok (.getfield 7, 3) := by decide +kernel
theorem dX9_drop_39 : decode cX9_drop 39 = .ok (.iload_n 1, 1) := by decide +kernel
theorem dX9_drop_40 : decode cX9_drop 40 = .ok (.iconst (-1), 1) := by decide +kernel
theorem dX9_drop_41 : decode cX9_drop 41 = .ok (.iastore, 1) := by decide +kernel
theorem dX9_drop_42 : decode cX9_drop 42 = .ok (.aload_n 0, 1) := by decide +kernel
theorem dX9_drop_43 : decode cX9_drop 43 = .ok (.getfield 13, 3) := by decide +kernel
theorem dX9_drop_46 : decode cX9_drop 46 = .ok (.iload_n 1, 1) := by decide +kernel
theorem dX9_drop_47 : decode cX9_drop 47 = .ok (.iaload, 1) := by decide +kernel
theorem dX9_drop_48 : decode cX9_drop 48 = .ok (.ireturn, 1) := by decide +kernel
theorem dX9_feed_0 : decode cX9_feed 0 = .ok (.aload_n 0, 1) := by decide +kernel
theorem dX9_feed_1 : decode cX9_feed 1 = .ok (.iconst 0, 1) := by decide +kernel
theorem dX9_feed_2 : decode cX9_feed 2 = .ok (.putfield 59, 3) := by decide +kernel
theorem dX9_feed_5 : decode cX9_feed 5 = .ok (.iload_n 3, 1) := by decide +kernel
theorem dX9_feed_6 : decode cX9_feed 6 = .ok (.i2l, 1) := by decide +kernel
theorem dX9_feed_7 : decode cX9_feed 7 = .ok (.lconst 1, 1) := by decide +kernel
theorem dX9_feed_8 : decode cX9_feed 8 = .ok (.ldc2_w 84, 3) := by decide +kernel
theorem dX9_feed_11 : decode cX9_feed 11 = .ok (.invokestatic 69, 3) := by decide +kernel
theorem dX9_feed_14 : decode cX9_feed 14 = .ok (.ifCond .ne 6, 3) := by decide +kernel
theorem dX9_feed_17 : decode cX9_feed 17 = .ok (.ldc 79, 2) := by decide +kernel
theorem dX9_feed_19 : decode cX9_feed 19 = .ok (.ireturn, 1) := by decide +kernel
theorem dX9_feed_20 : decode cX9_feed 20 = .ok (.aload_n 0, 1) := by decide +kernel
theorem dX9_feed_21 : decode cX9_feed 21 = .ok (.getfield 86, 3) := by decide +kernel
theorem dX9_feed_24 : decode cX9_feed 24 = .ok (.iload_n 3, 1) := by decide +kernel
theorem dX9_feed_25 : decode cX9_feed 25 = .ok (.iadd, 1) := by decide +kernel
theorem dX9_feed_26 : decode cX9_feed 26 = .ok (.sipush 400, 3) := by decide +kernel
theorem dX9_feed_29 : decode cX9_feed 29 = .ok (.if_icmp .le 6, 3) := by decide +kernel
theorem dX9_feed_32 : decode cX9_feed 32 = .ok (.ldc 89, 2) := by decide +kernel
theorem dX9_feed_34 : decode cX9_feed 34 = .ok (.ireturn, 1) := by decide +kernel
theorem dX9_feed_35 : decode cX9_feed 35 = .ok (.iload_n 3, 1) := by decide +kernel
theorem dX9_feed_36 : decode cX9_feed 36 = .ok (.iconst 1, 1) := by decide +kernel
theorem dX9_feed_37 : decode cX9_feed 37 = .ok (.isub, 1) := by decide +kernel
theorem dX9_feed_38 : decode cX9_feed 38 = .ok (.istore 4, 2) := by decide +kernel
theorem dX9_feed_40 : decode cX9_feed 40 = .ok (.iload 4, 2) := by decide +kernel
theorem dX9_feed_42 : decode cX9_feed 42 = .ok (.ifCond .lt 40, 3) := by decide +kernel
theorem dX9_feed_45 : decode cX9_feed 45 = .ok (.aload_n 0, 1) := by decide +kernel
theorem dX9_feed_46 : decode cX9_feed 46 = .ok (.getfield 28, 3) := by decide +kernel
theorem dX9_feed_49 : decode cX9_feed 49 = .ok (.aload_n 0, 1) := by decide +kernel
theorem dX9_feed_50 : decode cX9_feed 50 = .ok (.getfield 86, 3) := by decide +kernel
theorem dX9_feed_53 : decode cX9_feed 53 = .ok (.lload_n 1, 1) := by decide +kernel
theorem dX9_feed_54 : decode cX9_feed 54 = .ok (.bipush 8, 2) := by decide +kernel
theorem dX9_feed_56 : decode cX9_feed 56 = .ok (.iload 4, 2) := by decide +kernel
theorem dX9_feed_58 : decode cX9_feed 58 = .ok (.imul, 1) := by decide +kernel
theorem dX9_feed_59 : decode cX9_feed 59 = .ok (.lshr, 1) := by decide +kernel
theorem dX9_feed_60 : decode cX9_feed 60 = .ok (.ldc2_w 90, 3) := by decide +kernel
theorem dX9_feed_63 : decode cX9_feed 63 = .ok (.land, 1) := by decide +kernel
theorem dX9_feed_64 : decode cX9_feed 64 = .ok (.l2i, 1) := by decide +kernel
theorem dX9_feed_65 : decode cX9_feed 65 = .ok (.iastore, 1) := by decide +kernel
theorem dX9_feed_66 : decode cX9_feed 66 = .ok (.aload_n 0, 1) := by decide +kernel
theorem dX9_feed_67 : decode cX9_feed 67 = .ok (.dup, 1) := by decide +kernel
theorem dX9_feed_68 : decode cX9_feed 68 = .ok (.getfield 86, 3) := by decide +kernel
theorem dX9_feed_71 : decode cX9_feed 71 = .ok (.iconst 1, 1) := by decide +kernel
theorem dX9_feed_72 : decode cX9_feed 72 = .ok (.iadd, 1) := by decide +kernel
theorem dX9_feed_73 : decode cX9_feed 73 = .ok (.putfield 86, 3) := by decide +kernel
theorem dX9_feed_76 : decode cX9_feed 76 = .ok (.iinc 4 (-1), 3) := by decide +kernel
theorem dX9_feed_79 : decode cX9_feed 79 = .ok (.goto (-39), 3) := by decide +kernel
theorem dX9_feed_82 : decode cX9_feed 82 = .ok (.aload_n 0, 1) := by decide +kernel
theorem dX9_feed_83 : decode cX9_feed 83 = .ok (.getfield 86, 3) := by decide +kernel
theorem dX9_feed_86 : decode cX9_feed 86 = .ok (.ireturn, 1) := by decide +kernel
theorem dX9_byteAt_0 : decode cX9_byteAt 0 = .ok (.iload_n 1, 1) := by decide +kernel
theorem dX9_byteAt_1 : decode cX9_byteAt 1 = .ok (.aload_n 0, 1) := by decide +kernel
theorem dX9_byteAt_2 : decode cX9_byteAt 2 = .ok (.getfield 92, 3) := by decide +kernel
theorem dX9_byteAt_5 : decode cX9_byteAt 5 = .ok (.if_icmp .ge 12, 3) := by decide +kernel
theorem dX9_byteAt_8 : decode cX9_byteAt 8 = .ok (.aload_n 0, 1) := by decide +kernel
theorem dX9_byteAt_9 : decode cX9_byteAt 9 = .ok (.getfield 28, 3) := by decide +kernel
theorem dX9_byteAt_12 : decode cX9_byteAt 12 = .ok (.iload_n 1, 1) := by decide +kernel
theorem dX9_byteAt_13 : decode cX9_byteAt 13 = .ok (.iaload, 1) := by decide +kernel
theorem dX9_byteAt_14 : decode cX9_byteAt 14 = .ok (.goto 5, 3) := by decide +kernel
theorem dX9_byteAt_17 : decode cX9_byteAt 17 = .ok (.ldc 95, 2) := by decide +kernel
theorem dX9_byteAt_19 : decode cX9_byteAt 19 = .ok (.ireturn, 1) := by decide +kernel
theorem dX9_isLetter_0 : decode cX9_isLetter 0 = .ok (.iload_n 0, 1) := by decide +kernel
theorem dX9_isLetter_1 : decode cX9_isLetter 1 = .ok (.bipush 97, 2) := by decide +kernel
theorem dX9_isLetter_3 : decode cX9_isLetter 3 = .ok (.if_icmp .lt 13, 3) := by decide +kernel
theorem dX9_isLetter_6 : decode cX9_isLetter 6 = .ok (.iload_n 0, 1) := by decide +kernel
theorem dX9_isLetter_7 : decode cX9_isLetter 7 = .ok (.bipush 122, 2) := by decide +kernel
theorem dX9_isLetter_9 : decode cX9_isLetter 9 = .ok (.if_icmp .gt 7, 3) := by decide +kernel
theorem dX9_isLetter_12 : decode cX9_isLetter 12 = .ok (.iconst 1, 1) := by decide +kernel
theorem dX9_isLetter_13 : decode cX9_isLetter 13 = .ok (.goto 4, 3) := by decide +kernel
theorem dX9_isLetter_16 : decode cX9_isLetter 16 = .ok (.iconst 0, 1) := by decide +kernel
theorem dX9_isLetter_17 : decode cX9_isLetter 17 = .ok (.ireturn, 1) := by decide +kernel
theorem dX9_isFigure_0 : decode cX9_isFigure 0 = .ok (.iload_n 0, 1) := by decide +kernel
theorem dX9_isFigure_1 : decode cX9_isFigure 1 = .ok (.bipush 48, 2) := by decide +kernel
theorem dX9_isFigure_3 : decode cX9_isFigure 3 = .ok (.if_icmp .lt 13, 3) := by decide +kernel
theorem dX9_isFigure_6 : decode cX9_isFigure 6 = .ok (.iload_n 0, 1) := by decide +kernel
theorem dX9_isFigure_7 : decode cX9_isFigure 7 = .ok (.bipush 57, 2) := by decide +kernel
theorem dX9_isFigure_9 : decode cX9_isFigure 9 = .ok (.if_icmp .gt 7, 3) := by decide +kernel
theorem dX9_isFigure_12 : decode cX9_isFigure 12 = .ok (.iconst 1, 1) := by decide +kernel
theorem dX9_isFigure_13 : decode cX9_isFigure 13 = .ok (.goto 4, 3) := by decide +kernel
theorem dX9_isFigure_16 : decode cX9_isFigure 16 = .ok (.iconst 0, 1) := by decide +kernel
theorem dX9_isFigure_17 : decode cX9_isFigure 17 = .ok (.ireturn, 1) := by decide +kernel
theorem dX9_next_0 : decode cX9_next 0 = .ok (.aload_n 0, 1) := by decide +kernel
theorem dX9_next_1 : decode cX9_next 1 = .ok (.aload_n 0, 1) := by decide +kernel
theorem dX9_next_2 : decode cX9_next 2 = .ok (.getfield 96, 3) := by decide +kernel
theorem dX9_next_5 : decode cX9_next 5 = .ok (.invokevirtual 99, 3) := by decide +kernel
theorem dX9_next_8 : decode cX9_next 8 = .ok (.bipush 32, 2) := by decide +kernel
theorem dX9_next_10 : decode cX9_next 10 = .ok (.if_icmp .eq 16, 3) := by decide +kernel
theorem dX9_next_13 : decode cX9_next 13 = .ok (.aload_n 0, 1) := by decide +kernel
theorem dX9_next_14 : decode cX9_next 14 = .ok (.aload_n 0, 1) := by decide +kernel
theorem dX9_next_15 : decode cX9_next 15 = .ok (.getfield 96, 3) := by decide +kernel
theorem dX9_next_18 : decode cX9_next 18 = .ok (.invokevirtual 99, 3) := by decide +kernel
theorem dX9_next_21 : decode cX9_next 21 = .ok (.bipush 10, 2) := by decide +kernel
theorem dX9_next_23 : decode cX9_next 23 = .ok (.if_icmp .ne 16, 3) := by decide +kernel
theorem dX9_next_26 : decode cX9_next 26 = .ok (.aload_n 0, 1) := by decide +kernel
theorem dX9_next_27 : decode cX9_next 27 = .ok (.dup, 1) := by decide +kernel
theorem dX9_next_28 : decode cX9_next 28 = .ok (.getfield 96, 3) := by decide +kernel
theorem dX9_next_31 : decode cX9_next 31 = .ok (.iconst 1, 1) := by decide +kernel
theorem dX9_next_32 : decode cX9_next 32 = .ok (.iadd, 1) := by decide +kernel
theorem dX9_next_33 : decode cX9_next 33 = .ok (.putfield 96, 3) := by decide +kernel
theorem dX9_next_36 : decode cX9_next 36 = .ok (.goto (-36), 3) := by decide +kernel
theorem dX9_next_39 : decode cX9_next 39 = .ok (.aload_n 0, 1) := by decide +kernel
theorem dX9_next_40 : decode cX9_next 40 = .ok (.aload_n 0, 1) := by decide +kernel
theorem dX9_next_41 : decode cX9_next 41 = .ok (.getfield 96, 3) := by decide +kernel
theorem dX9_next_44 : decode cX9_next 44 = .ok (.putfield 102, 3) := by decide +kernel
theorem dX9_next_47 : decode cX9_next 47 = .ok (.aload_n 0, 1) := by decide +kernel
theorem dX9_next_48 : decode cX9_next 48 = .ok (.aload_n 0, 1) := by decide +kernel
theorem dX9_next_49 : decode cX9_next 49 = .ok (.getfield 96, 3) := by decide +kernel
theorem dX9_next_52 : decode cX9_next 52 = .ok (.invokevirtual 99, 3) := by decide +kernel
theorem dX9_next_55 : decode cX9_next 55 = .ok (.istore_n 1, 1) := by decide +kernel
theorem dX9_next_56 : decode cX9_next 56 = .ok (.iload_n 1, 1) := by decide +kernel
theorem dX9_next_57 : decode cX9_next 57 = .ok (.ldc 95, 2) := by decide +kernel
theorem dX9_next_59 : decode cX9_next 59 = .ok (.if_icmp .ne 11, 3) := by decide +kernel
theorem dX9_next_62 : decode cX9_next 62 = .ok (.aload_n 0, 1) := by decide +kernel
theorem dX9_next_63 : decode cX9_next 63 = .ok (.iconst 1, 1) := by decide +kernel
theorem dX9_next_64 : decode cX9_next 64 = .ok (.putfield 105, 3) := by decide +kernel
theorem dX9_next_67 : decode cX9_next 67 = .ok (.goto 129, 3) := by decide +kernel
theorem dX9_next_70 : decode cX9_next 70 = .ok (.iload_n 1, 1) := by decide +kernel
theorem dX9_next_71 : decode cX9_next 71 = .ok (.invokestatic 108, 3) := by decide +kernel
theorem dX9_next_74 : decode cX9_next 74 = .ok (.ifCond .eq 38, 3) := by decide +kernel
theorem dX9_next_77 : decode cX9_next 77 = .ok (.aload_n 0, 1) := by decide +kernel
theorem dX9_next_78 : decode cX9_next 78 = .ok (.aload_n 0, 1) := by decide +kernel
theorem dX9_next_79 : decode cX9_next 79 = .ok (.getfield 96, 3) := by decide +kernel
theorem dX9_next_82 : decode cX9_next 82 = .ok (.invokevirtual 99, 3) := by decide +kernel
theorem dX9_next_85 : decode cX9_next 85 = .ok (.invokestatic 108, 3) := by decide +kernel
theorem dX9_next_88 : decode cX9_next 88 = .ok (.ifCond .eq 16, 3) := by decide +kernel
theorem dX9_next_91 : decode cX9_next 91 = .ok (.aload_n 0, 1) := by decide +kernel
theorem dX9_next_92 : decode cX9_next 92 = .ok (.dup, 1) := by decide +kernel
theorem dX9_next_93 : decode cX9_next 93 = .ok (.getfield 96, 3) := by decide +kernel
theorem dX9_next_96 : decode cX9_next 96 = .ok (.iconst 1, 1) := by decide +kernel
theorem dX9_next_97 : decode cX9_next 97 = .ok (.iadd, 1) := by decide +kernel
theorem dX9_next_98 : decode cX9_next 98 = .ok (.putfield 96, 3) := by decide +kernel
theorem dX9_next_101 : decode cX9_next 101 = .ok (.goto (-24), 3) := by decide +kernel
theorem dX9_next_104 : decode cX9_next 104 = .ok (.aload_n 0, 1) := by decide +kernel
theorem dX9_next_105 : decode cX9_next 105 = .ok (.iconst 2, 1) := by decide +kernel
theorem dX9_next_106 : decode cX9_next 106 = .ok (.putfield 105, 3) := by decide +kernel
theorem dX9_next_109 : decode cX9_next 109 = .ok (.goto 87, 3) := by decide +kernel
theorem dX9_next_112 : decode cX9_next 112 = .ok (.iload_n 1, 1) := by decide +kernel
theorem dX9_next_113 : decode cX9_next 113 = .ok (.invokestatic 111, 3) := by decide +kernel
theorem dX9_next_116 : decode cX9_next 116 = .ok (.ifCond .eq 55, 3) := by decide +kernel
theorem dX9_next_119 : decode cX9_next 119 = .ok (.aload_n 0, 1) := by decide +kernel
theorem dX9_next_120 : decode cX9_next 120 = .ok (.aload_n 0, 1) := by decide +kernel
theorem dX9_next_121 : decode cX9_next 121 = .ok (.getfield 96, 3) := by decide +kernel
theorem dX9_next_124 : decode cX9_next 124 = .ok (.invokevirtual 99, 3) := by decide +kernel
theorem dX9_next_127 : decode cX9_next 127 = .ok (.invokestatic 111, 3) := by decide +kernel
theorem dX9_next_130 : decode cX9_next 130 = .ok (.ifCond .eq 16, 3) := by decide +kernel
theorem dX9_next_133 : decode cX9_next 133 = .ok (.aload_n 0, 1) := by decide +kernel
theorem dX9_next_134 : decode cX9_next 134 = .ok (.dup, 1) := by decide +kernel
theorem dX9_next_135 : decode cX9_next 135 = .ok (.getfield 96, 3) := by decide +kernel
theorem dX9_next_138 : decode cX9_next 138 = .ok (.iconst 1, 1) := by decide +kernel
theorem dX9_next_139 : decode cX9_next 139 = .ok (.iadd, 1) := by decide +kernel
theorem dX9_next_140 : decode cX9_next 140 = .ok (.putfield 96, 3) := by decide +kernel
theorem dX9_next_143 : decode cX9_next 143 = .ok (.goto (-24), 3) := by decide +kernel
theorem dX9_next_146 : decode cX9_next 146 = .ok (.aload_n 0, 1) := by decide +kernel
theorem dX9_next_147 : decode cX9_next 147 = .ok (.aload_n 0, 1) := by decide +kernel
theorem dX9_next_148 : decode cX9_next 148 = .ok (.getfield 96, 3) := by decide +kernel
theorem dX9_next_151 : decode cX9_next 151 = .ok (.aload_n 0, 1) := by decide +kernel
theorem dX9_next_152 : decode cX9_next 152 = .ok (.getfield 102, 3) := by decide +kernel
theorem dX9_next_155 : decode cX9_next 155 = .ok (.isub, 1) := by decide +kernel
theorem dX9_next_156 : decode cX9_next 156 = .ok (.iconst 3, 1) := by decide +kernel
theorem dX9_next_157 : decode cX9_next 157 = .ok (.if_icmp .le 7, 3) := by decide +kernel
theorem dX9_next_160 : decode cX9_next 160 = .ok (.iconst 0, 1) := by decide +kernel
theorem dX9_next_161 : decode cX9_next 161 = .ok (.goto 4, 3) := by decide +kernel
theorem dX9_next_164 : decode cX9_next 164 = .ok (.iconst 3, 1) := by decide +kernel
theorem dX9_next_165 : decode cX9_next 165 = .ok (.putfield 105, 3) := by decide +kernel
theorem dX9_next_168 : decode cX9_next 168 = .ok (.goto 28, 3) := by decide +kernel
theorem dX9_next_171 : decode cX9_next 171 = .ok (.aload_n 0, 1) := by decide +kernel
theorem dX9_next_172 : decode cX9_next 172 = .ok (.dup, 1) := by decide +kernel
theorem dX9_next_173 : decode cX9_next 173 = .ok (.getfield 96, 3) := by decide +kernel
theorem dX9_next_176 : decode cX9_next 176 = .ok (.iconst 1, 1) := by decide +kernel
theorem dX9_next_177 : decode cX9_next 177 = .ok (.iadd, 1) := by decide +kernel
theorem dX9_next_178 : decode cX9_next 178 = .ok (.putfield 96, 3) := by decide +kernel
theorem dX9_next_181 : decode cX9_next 181 = .ok (.aload_n 0, 1) := by decide +kernel
theorem dX9_next_182 : decode cX9_next 182 = .ok (.iload_n 1, 1) := by decide +kernel
theorem dX9_next_183 : decode cX9_next 183 = .ok (.bipush 59, 2) := by decide +kernel
theorem dX9_next_185 : decode cX9_next 185 = .ok (.if_icmp .ne 7, 3) := by decide +kernel
theorem dX9_next_188 : decode cX9_next 188 = .ok (.iconst 4, 1) := by decide +kernel
theorem dX9_next_189 : decode cX9_next 189 = .ok (.goto 4, 3) := by decide +kernel
theorem dX9_next_192 : decode cX9_next 192 = .ok (.iconst 0, 1) := by decide +kernel
theorem dX9_next_193 : decode cX9_next 193 = .ok (.putfield 105, 3) := by decide +kernel
theorem dX9_next_196 : decode cX9_next 196 = .ok (.aload_n 0, 1) := by decide +kernel
theorem dX9_next_197 : decode cX9_next 197 = .ok (.aload_n 0, 1) := by decide +kernel
theorem dX9_next_198 : decode cX9_next 198 = .ok (.getfield 96, 3) := by decide +kernel
theorem dX9_next_201 : decode cX9_next 201 = .ok (.putfield 114, 3) := by decide +kernel
theorem dX9_next_204 : decode cX9_next 204 = .ok (.return_, 1) := by decide +kernel
theorem dX9_begin_0 : decode cX9_begin 0 = .ok (.aload_n 0, 1) := by decide +kernel
theorem dX9_begin_1 : decode cX9_begin 1 = .ok (.aload_n 0, 1) := by decide +kernel
theorem dX9_begin_2 : decode cX9_begin 2 = .ok (.getfield 86, 3) := by decide +kernel
theorem dX9_begin_5 : decode cX9_begin 5 = .ok (.putfield 92, 3) := by decide +kernel
theorem dX9_begin_8 : decode cX9_begin 8 = .ok (.aload_n 0, 1) := by decide +kernel
theorem dX9_begin_9 : decode cX9_begin 9 = .ok (.iconst 0, 1) := by decide +kernel
theorem dX9_begin_10 : decode cX9_begin 10 = .ok (.putfield 86, 3) := by decide +kernel
theorem dX9_begin_13 : decode cX9_begin 13 = .ok (.aload_n 0, 1) := by decide +kernel
theorem dX9_begin_14 : decode cX9_begin 14 = .ok (.iconst 0, 1) := by decide +kernel
theorem dX9_begin_15 : decode cX9_begin 15 = .ok (.putfield 96, 3) := by decide +kernel
theorem dX9_begin_18 : decode cX9_begin 18 = .ok (.aload_n 0, 1) := by decide +kernel
theorem dX9_begin_19 : decode cX9_begin 19 = .ok (.iconst 0, 1) := by decide +kernel
theorem dX9_begin_20 : decode cX9_begin 20 = .ok (.putfield 117, 3) := by decide +kernel
theorem dX9_begin_23 : decode cX9_begin 23 = .ok (.aload_n 0, 1) := by decide +kernel
theorem dX9_begin_24 : decode cX9_begin 24 = .ok (.invokevirtual 120, 3) := by decide +kernel
theorem dX9_begin_27 : decode cX9_begin 27 = .ok (.return_, 1) := by decide +kernel
theorem dX9_bad_0 : decode cX9_bad 0 = .ok (.aload_n 0, 1) := by decide +kernel
theorem dX9_bad_1 : decode cX9_bad 1 = .ok (.getfield 117, 3) := by decide +kernel
theorem dX9_bad_4 : decode cX9_bad 4 = .ok (.ifCond .ne 16, 3) := by decide +kernel
theorem dX9_bad_7 : decode cX9_bad 7 = .ok (.aload_n 0, 1) := by decide +kernel
theorem dX9_bad_8 : decode cX9_bad 8 = .ok (.iload_n 1, 1) := by decide +kernel
theorem dX9_bad_9 : decode cX9_bad 9 = .ok (.putfield 117, 3) := by decide +kernel
theorem dX9_bad_12 : decode cX9_bad 12 = .ok (.aload_n 0, 1) := by decide +kernel
theorem dX9_bad_13 : decode cX9_bad 13 = .ok (.aload_n 0, 1) := by decide +kernel
theorem dX9_bad_14 : decode cX9_bad 14 = .ok (.getfield 102, 3) := by decide +kernel
theorem dX9_bad_17 : decode cX9_bad 17 = .ok (.putfield 123, 3) := by decide +kernel
theorem dX9_bad_20 : decode cX9_bad 20 = .ok (.return_, 1) := by decide +kernel
theorem dX9_must_0 : decode cX9_must 0 = .ok (.iload_n 1, 1) := by decide +kernel
theorem dX9_must_1 : decode cX9_must 1 = .ok (.ifCond .ne 8, 3) := by decide +kernel
theorem dX9_must_4 : decode cX9_must 4 = .ok (.aload_n 0, 1) := by decide +kernel
theorem dX9_must_5 : decode cX9_must 5 = .ok (.iconst 1, 1) := by decide +kernel
theorem dX9_must_6 : decode cX9_must 6 = .ok (.invokevirtual 126, 3) := by decide +kernel
theorem dX9_must_9 : decode cX9_must 9 = .ok (.aload_n 0, 1) := by decide +kernel
theorem dX9_must_10 : decode cX9_must 10 = .ok (.getfield 117, 3) := by decide +kernel
theorem dX9_must_13 : decode cX9_must 13 = .ok (.ifCond .ne 7, 3) := by decide +kernel
theorem dX9_must_16 : decode cX9_must 16 = .ok (.aload_n 0, 1) := by decide +kernel
theorem dX9_must_17 : decode cX9_must 17 = .ok (.invokevirtual 120, 3) := by decide +kernel
theorem dX9_must_20 : decode cX9_must 20 = .ok (.return_, 1) := by decide +kernel
theorem dX9_name_0 : decode cX9_name 0 = .ok (.lconst 0, 1) := by decide +kernel
theorem dX9_name_1 : decode cX9_name 1 = .ok (.lstore_n 1, 1) := by decide +kernel
theorem dX9_name_2 : decode cX9_name 2 = .ok (.aload_n 0, 1) := by decide +kernel
theorem dX9_name_3 : decode cX9_name 3 = .ok (.getfield 102, 3) := by decide +kernel
theorem dX9_name_6 : decode cX9_name 6 = .ok (.istore_n 3, 1) := by decide +kernel
theorem dX9_name_7 : decode cX9_name 7 = .ok (.iload_n 3, 1) := by decide +kernel
theorem dX9_name_8 : decode cX9_name 8 = .ok (.aload_n 0, 1) := by decide +kernel
theorem dX9_name_9 : decode cX9_name 9 = .ok (.getfield 114, 3) := by decide +kernel
theorem dX9_name_12 : decode cX9_name 12 = .ok (.if_icmp .ge 44, 3) := by decide +kernel
theorem dX9_name_15 : decode cX9_name 15 = .ok (.aload_n 0, 1) := by decide +kernel
theorem dX9_name_16 : decode cX9_name 16 = .ok (.getfield 105, 3) := by decide +kernel
theorem dX9_name_19 : decode cX9_name 19 = .ok (.iconst 2, 1) := by decide +kernel
theorem dX9_name_20 : decode cX9_name 20 = .ok (.if_icmp .ne 36, 3) := by decide +kernel
theorem dX9_name_23 : decode cX9_name 23 = .ok (.aload_n 0, 1) := by decide +kernel
theorem dX9_name_24 : decode cX9_name 24 = .ok (.getfield 114, 3) := by decide +kernel
theorem dX9_name_27 : decode cX9_name 27 = .ok (.aload_n 0, 1) := by decide +kernel
theorem dX9_name_28 : decode cX9_name 28 = .ok (.getfield 102, 3) := by decide +kernel
theorem dX9_name_31 : decode cX9_name 31 = .ok (.isub, 1) := by decide +kernel
theorem dX9_name_32 : decode cX9_name 32 = .ok (.bipush 8, 2) := by decide +kernel
theorem dX9_name_34 : decode cX9_name 34 = .ok (.if_icmp .ge 22, 3) := by decide +kernel
theorem dX9_name_37 : decode cX9_name 37 = .ok (.lload_n 1, 1) := by decide +kernel
theorem dX9_name_38 : decode cX9_name 38 = .ok (.bipush 8, 2) := by decide +kernel
theorem dX9_name_40 : decode cX9_name 40 = .ok (.lshl, 1) := by decide +kernel
theorem dX9_name_41 : decode cX9_name 41 = .ok (.aload_n 0, 1) := by decide +kernel
theorem dX9_name_42 : decode cX9_name 42 = .ok (.getfield 28, 3) := by decide +kernel
theorem dX9_name_45 : decode cX9_name 45 = .ok (.iload_n 3, 1) := by decide +kernel
theorem dX9_name_46 : decode cX9_name 46 = .ok (.iaload, 1) := by decide +kernel
theorem dX9_name_47 : decode cX9_name 47 = .ok (.i2l, 1) := by decide +kernel
theorem dX9_name_48 : decode cX9_name 48 = .ok (.lor, 1) := by decide +kernel
theorem dX9_name_49 : decode cX9_name 49 = .ok (.lstore_n 1, 1) := by decide +kernel
theorem dX9_name_50 : decode cX9_name 50 = .ok (.iinc 3 1, 3) := by decide +kernel
theorem dX9_name_53 : decode cX9_name 53 = .ok (.goto (-46), 3) := by decide +kernel
theorem dX9_name_56 : decode cX9_name 56 = .ok (.aload_n 0, 1) := by decide +kernel
theorem dX9_name_57 : decode cX9_name 57 = .ok (.getfield 117, 3) := by decide +kernel
theorem dX9_name_60 : decode cX9_name 60 = .ok (.ifCond .ne 7, 3) := by decide +kernel
theorem dX9_name_63 : decode cX9_name 63 = .ok (.lload_n 1, 1) := by decide +kernel
theorem dX9_name_64 : decode cX9_name 64 = .ok (.goto 4, 3) := by decide +kernel
theorem dX9_name_67 : decode cX9_name 67 = .ok (.lconst 0, 1) := by decide +kernel
theorem dX9_name_68 : decode cX9_name 68 = .ok (.lreturn, 1) := by decide +kernel
theorem dX9_figures_0 : decode cX9_figures 0 = .ok (.iconst 0, 1) := by decide +kernel
theorem dX9_figures_1 : decode cX9_figures 1 = .ok (.istore_n 1, 1) := by decide +kernel
theorem dX9_figures_2 : decode cX9_figures 2 = .ok (.aload_n 0, 1) := by decide +kernel
theorem dX9_figures_3 : decode cX9_figures 3 = .ok (.getfield 102, 3) := by decide +kernel
theorem dX9_figures_6 : decode cX9_figures 6 = .ok (.istore_n 2, 1) := by decide +kernel
theorem dX9_figures_7 : decode cX9_figures 7 = .ok (.iload_n 2, 1) := by decide +kernel
theorem dX9_figures_8 : decode cX9_figures 8 = .ok (.aload_n 0, 1) := by decide +kernel
theorem dX9_figures_9 : decode cX9_figures 9 = .ok (.getfield 114, 3) := by decide +kernel
theorem dX9_figures_12 : decode cX9_figures 12 = .ok (.if_icmp .ge 32, 3) := by decide +kernel
theorem dX9_figures_15 : decode cX9_figures 15 = .ok (.aload_n 0, 1) := by decide +kernel
theorem dX9_figures_16 : decode cX9_figures 16 = .ok (.getfield 105, 3) := by decide +kernel
theorem dX9_figures_19 : decode cX9_figures 19 = .ok (.iconst 3, 1) := by decide +kernel
theorem dX9_figures_20 : decode cX9_figures 20 = .ok (.if_icmp .ne 24, 3) := by decide +kernel
theorem dX9_figures_23 : decode cX9_figures 23 = .ok (.bipush 10, 2) := by decide +kernel
theorem dX9_figures_25 : decode cX9_figures 25 = .ok (.iload_n 1, 1) := by decide +kernel
theorem dX9_figures_26 : decode cX9_figures 26 = .ok (.imul, 1) := by decide +kernel
theorem dX9_figures_27 : decode cX9_figures 27 = .ok (.aload_n 0, 1) := by decide +kernel
theorem dX9_figures_28 : decode cX9_figures 28 = .ok (.getfield 28, 3) := by decide +kernel
theorem dX9_figures_31 : decode cX9_figures 31 = .ok (.iload_n 2, 1) := by decide +kernel
theorem dX9_figures_32 : decode cX9_figures 32 = .ok (.iaload, 1) := by decide +kernel
theorem dX9_figures_33 : decode cX9_figures 33 = .ok (.iadd, 1) := by decide +kernel
theorem dX9_figures_34 : decode cX9_figures 34 = .ok (.bipush 48, 2) := by decide +kernel
theorem dX9_figures_36 : decode cX9_figures 36 = .ok (.isub, 1) := by decide +kernel
theorem dX9_figures_37 : decode cX9_figures 37 = .ok (.istore_n 1, 1) := by decide +kernel
theorem dX9_figures_38 : decode cX9_figures 38 = .ok (.iinc 2 1, 3) := by decide +kernel
theorem dX9_figures_41 : decode cX9_figures 41 = .ok (.goto (-34), 3) := by decide +kernel
theorem dX9_figures_44 : decode cX9_figures 44 = .ok (.iload_n 1, 1) := by decide +kernel
theorem dX9_figures_45 : decode cX9_figures 45 = .ok (.ireturn, 1) := by decide +kernel
theorem dX9_number_0 : decode cX9_number 0 = .ok (.aload_n 0, 1) := by decide +kernel
theorem dX9_number_1 : decode cX9_number 1 = .ok (.getfield 117, 3) := by decide +kernel
theorem dX9_number_4 : decode cX9_number 4 = .ok (.ifCond .le 5, 3) := by decide +kernel
theorem dX9_number_7 : decode cX9_number 7 = .ok (.iconst 0, 1) := by decide +kernel
theorem dX9_number_8 : decode cX9_number 8 = .ok (.ireturn, 1) := by decide +kernel
theorem dX9_number_9 : decode cX9_number 9 = .ok (.aload_n 0, 1) := by decide +kernel
theorem dX9_number_10 : decode cX9_number 10 = .ok (.invokevirtual 130, 3) := by decide +kernel
theorem dX9_number_13 : decode cX9_number 13 = .ok (.istore_n 3, 1) := by decide +kernel
theorem dX9_number_14 : decode cX9_number 14 = .ok (.aload_n 0, 1) := by decide +kernel
theorem dX9_number_15 : decode cX9_number 15 = .ok (.getfield 105, 3) := by decide +kernel
theorem dX9_number_18 : decode cX9_number 18 = .ok (.iconst 3, 1) := by decide +kernel
theorem dX9_number_19 : decode cX9_number 19 = .ok (.if_icmp .ne 20, 3) := by decide +kernel
theorem dX9_number_22 : decode cX9_number 22 = .ok (.iload_n 3, 1) := by decide +kernel
theorem dX9_number_23 : decode cX9_number 23 = .ok (.i2l, 1) := by decide +kernel
theorem dX9_number_24 : decode cX9_number 24 = .ok (.iload_n 1, 1) := by decide +kernel
theorem dX9_number_25 : decode cX9_number 25 = .ok (.i2l, 1) := by decide +kernel
theorem dX9_number_26 : decode cX9_number 26 = .ok (.iload_n 2, 1) := by decide +kernel
theorem dX9_number_27 : decode cX9_number 27 = .ok (.i2l, 1) := by decide +kernel
theorem dX9_number_28 : decode cX9_number 28 = .ok (.invokestatic 69, 3) := by decide +kernel
theorem dX9_number_31 : decode cX9_number 31 = .ok (.ifCond .ne 8, 3) := by decide +kernel
theorem dX9_number_34 : decode cX9_number 34 = .ok (.aload_n 0, 1) := by decide +kernel
theorem dX9_number_35 : decode cX9_number 35 = .ok (.iconst 2, 1) := by decide +kernel
theorem dX9_number_36 : decode cX9_number 36 = .ok (.invokevirtual 126, 3) := by decide +kernel
theorem dX9_number_39 : decode cX9_number 39 = .ok (.aload_n 0, 1) := by decide +kernel
theorem dX9_number_40 : decode cX9_number 40 = .ok (.aload_n 0, 1) := by decide +kernel
theorem dX9_number_41 : decode cX9_number 41 = .ok (.getfield 105, 3) := by decide +kernel
theorem dX9_number_44 : decode cX9_number 44 = .ok (.iconst 3, 1) := by decide +kernel
theorem dX9_number_45 : decode cX9_number 45 = .ok (.if_icmp .ne 7, 3) := by decide +kernel
theorem dX9_number_48 : decode cX9_number 48 = .ok (.iconst 1, 1) := by decide +kernel
theorem dX9_number_49 : decode cX9_number 49 = .ok (.goto 4, 3) := by decide +kernel
theorem dX9_number_52 : decode cX9_number 52 = .ok (.iconst 0, 1) := by decide +kernel
theorem dX9_number_53 : decode cX9_number 53 = .ok (.invokevirtual 134, 3) := by decide +kernel
theorem dX9_number_56 : decode cX9_number 56 = .ok (.iload_n 3, 1) := by decide +kernel
theorem dX9_number_57 : decode cX9_number 57 = .ok (.ireturn, 1) := by decide +kernel
theorem dX9_mustEnd_0 : decode cX9_mustEnd 0 = .ok (.aload_n 0, 1) := by decide +kernel
theorem dX9_mustEnd_1 : decode cX9_mustEnd 1 = .ok (.getfield 117, 3) := by decide +kernel
theorem dX9_mustEnd_4 : decode cX9_mustEnd 4 = .ok (.ifCond .ne 20, 3) := by decide +kernel
theorem dX9_mustEnd_7 : decode cX9_mustEnd 7 = .ok (.aload_n 0, 1) := by decide +kernel
theorem dX9_mustEnd_8 : decode cX9_mustEnd 8 = .ok (.aload_n 0, 1) := by decide +kernel
theorem dX9_mustEnd_9 : decode cX9_mustEnd 9 = .ok (.getfield 105, 3) := by decide +kernel
theorem dX9_mustEnd_12 : decode cX9_mustEnd 12 = .ok (.iconst 4, 1) := by decide +kernel
theorem dX9_mustEnd_13 : decode cX9_mustEnd 13 = .ok (.if_icmp .ne 7, 3) := by decide +kernel
theorem dX9_mustEnd_16 : decode cX9_mustEnd 16 = .ok (.iconst 1, 1) := by decide +kernel
theorem dX9_mustEnd_17 : decode cX9_mustEnd 17 = .ok (.goto 4, 3) := by decide +kernel
theorem dX9_mustEnd_20 : decode cX9_mustEnd 20 = .ok (.iconst 0, 1) := by decide +kernel
theorem dX9_mustEnd_21 : decode cX9_mustEnd 21 = .ok (.invokevirtual 134, 3) := by decide +kernel
theorem dX9_mustEnd_24 : decode cX9_mustEnd 24 = .ok (.return_, 1) := by decide +kernel
theorem dX9_begins_0 : decode cX9_begins 0 = .ok (.aload_n 0, 1) := by decide +kernel
theorem dX9_begins_1 : decode cX9_begins 1 = .ok (.getfield 22, 3) := by decide +kernel
theorem dX9_begins_4 : decode cX9_begins 4 = .ok (.iload_n 1, 1) := by decide +kernel
theorem dX9_begins_5 : decode cX9_begins 5 = .ok (.iaload, 1) := by decide +kernel
theorem dX9_begins_6 : decode cX9_begins 6 = .ok (.iload_n 2, 1) := by decide +kernel
theorem dX9_begins_7 : decode cX9_begins 7 = .ok (.if_icmp .ne 8, 3) := by decide +kernel
theorem dX9_begins_10 : decode cX9_begins 10 = .ok (.aload_n 0, 1) := by decide +kernel
theorem dX9_begins_11 : decode cX9_begins 11 = .ok (.iconst 3, 1) := by decide +kernel
theorem dX9_begins_12 : decode cX9_begins 12 = .ok (.invokevirtual 126, 3) := by decide +kernel
theorem dX9_begins_15 : decode cX9_begins 15 = .ok (.aload_n 0, 1) := by decide +kernel
theorem dX9_begins_16 : decode cX9_begins 16 = .ok (.iconst 1, 1) := by decide +kernel
theorem dX9_begins_17 : decode cX9_begins 17 = .ok (.invokevirtual 134, 3) := by decide +kernel
theorem dX9_begins_20 : decode cX9_begins 20 = .ok (.return_, 1) := by decide +kernel
theorem dX9_readStep_0 : decode cX9_readStep 0 = .ok (.aload_n 0, 1) := by decide +kernel
theorem dX9_readStep_1 : decode cX9_readStep 1 = .ok (.iconst 0, 1) := by decide +kernel
theorem dX9_readStep_2 : decode cX9_readStep 2 = .ok (.bipush 18, 2) := by decide +kernel
theorem dX9_readStep_4 : decode cX9_readStep 4 = .ok (.invokevirtual 138, 3) := by decide +kernel
theorem dX9_readStep_7 : decode cX9_readStep 7 = .ok (.aload_n 0, 1) := by decide +kernel
theorem dX9_readStep_8 : decode cX9_readStep 8 = .ok (.iconst 0, 1) := by decide +kernel
theorem dX9_readStep_9 : decode cX9_readStep 9 = .ok (.iconst 4, 1) := by decide +kernel
theorem dX9_readStep_10 : decode cX9_readStep 10 = .ok (.invokevirtual 142, 3) := by decide +kernel
theorem dX9_readStep_13 : decode cX9_readStep 13 = .ok (.istore_n 1, 1) := by decide +kernel
theorem dX9_readStep_14 : decode cX9_readStep 14 = .ok (.aload_n 0, 1) := by decide +kernel
theorem dX9_readStep_15 : decode cX9_readStep 15 = .ok (.iconst 0, 1) := by decide +kernel
theorem dX9_readStep_16 : decode cX9_readStep 16 = .ok (.bipush 20, 2) := by decide +kernel
theorem dX9_readStep_18 : decode cX9_readStep 18 = .ok (.invokevirtual 142, 3) := by decide +kernel
theorem dX9_readStep_21 : decode cX9_readStep 21 = .ok (.istore_n 2, 1) := by decide +kernel
theorem dX9_readStep_22 : decode cX9_readStep 22 = .ok (.aload_n 0, 1) := by decide +kernel
theorem dX9_readStep_23 : decode cX9_readStep 23 = .ok (.invokevirtual 146, 3) := by decide +kernel
theorem dX9_readStep_26 : decode cX9_readStep 26 = .ok (.aload_n 0, 1) := by decide +kernel
theorem dX9_readStep_27 : decode cX9_readStep 27 = .ok (.getfield 117, 3) := by decide +kernel
theorem dX9_readStep_30 : decode cX9_readStep 30 = .ok (.ifCond .ne 47, 3) := by decide +kernel
theorem dX9_readStep_33 : decode cX9_readStep 33 = .ok (.aload_n 0, 1) := by decide +kernel
theorem dX9_readStep_34 : decode cX9_readStep 34 = .ok (.getfield 22, 3) := by decide +kernel
theorem dX9_readStep_37 : decode cX9_readStep 37 = .ok (.iconst 2, 1) := by decide +kernel
theorem dX9_readStep_38 : decode cX9_readStep 38 = .ok (.iconst 3, 1) := by decide +kernel
theorem dX9_readStep_39 : decode cX9_readStep 39 = .ok (.aload_n 0, 1) := by decide +kernel
theorem dX9_readStep_40 : decode cX9_readStep 40 = .ok (.getfield 22, 3) := by decide +kernel
theorem dX9_readStep_43 : decode cX9_readStep 43 = .ok (.iconst 0, 1) := by decide +kernel
theorem dX9_readStep_44 : decode cX9_readStep 44 = .ok (.iaload, 1) := by decide +kernel
theorem dX9_readStep_45 : decode cX9_readStep 45 = .ok (.imul, 1) := by decide +kernel
theorem dX9_readStep_46 : decode cX9_readStep 46 = .ok (.iadd, 1) := by decide +kernel
theorem dX9_readStep_47 : decode cX9_readStep 47 = .ok (.iload_n 1, 1) := by decide +kernel
theorem dX9_readStep_48 : decode cX9_readStep 48 = .ok (.iastore, 1) := by decide +kernel
theorem dX9_readStep_49 : decode cX9_readStep 49 = .ok (.aload_n 0, 1) := by decide +kernel
theorem dX9_readStep_50 : decode cX9_readStep 50 = .ok (.getfield 22, 3) := by decide +kernel
theorem dX9_readStep_53 : decode cX9_readStep 53 = .ok (.iconst 2, 1) := by decide +kernel
theorem dX9_readStep_54 : decode cX9_readStep 54 = .ok (.iconst 3, 1) := by decide +kernel
theorem dX9_readStep_55 : decode cX9_readStep 55 = .ok (.aload_n 0, 1) := by decide +kernel
theorem dX9_readStep_56 : decode cX9_readStep 56 = .ok (.getfield 22, 3) := by decide +kernel
theorem dX9_readStep_59 : decode cX9_readStep 59 = .ok (.iconst 0, 1) := by decide +kernel
theorem dX9_readStep_60 : decode cX9_readStep 60 = .ok (.iaload, 1) := by decide +kernel
theorem dX9_readStep_61 : decode cX9_readStep 61 = .ok (.imul, 1) := by decide +kernel
theorem dX9_readStep_62 : decode cX9_readStep 62 = .ok (.iadd, 1) := by decide +kernel
theorem dX9_readStep_63 : decode cX9_readStep 63 = .ok (.iconst 1, 1) := by decide +kernel
theorem dX9_readStep_64 : decode cX9_readStep 64 = .ok (.iadd, 1) := by decide +kernel
theorem dX9_readStep_65 : decode cX9_readStep 65 = .ok (.iload_n 2, 1) := by decide +kernel
theorem dX9_readStep_66 : decode cX9_readStep 66 = .ok (.iastore, 1) := by decide +kernel
theorem dX9_readStep_67 : decode cX9_readStep 67 = .ok (.aload_n 0, 1) := by decide +kernel
theorem dX9_readStep_68 : decode cX9_readStep 68 = .ok (.getfield 22, 3) := by decide +kernel
theorem dX9_readStep_71 : decode cX9_readStep 71 = .ok (.iconst 0, 1) := by decide +kernel
theorem dX9_readStep_72 : decode cX9_readStep 72 = .ok (.dup2, 1) := by decide +kernel
theorem dX9_readStep_73 : decode cX9_readStep 73 = .ok (.iaload, 1) := by decide +kernel
theorem dX9_readStep_74 : decode cX9_readStep 74 = .ok (.iconst 1, 1) := by decide +kernel
theorem dX9_readStep_75 : decode cX9_readStep 75 = .ok (.iadd, 1) := by decide +kernel
theorem dX9_readStep_76 : decode cX9_readStep 76 = .ok (.iastore, 1) := by decide +kernel
theorem dX9_readStep_77 : decode cX9_readStep 77 = .ok (.return_, 1) := by decide +kernel
theorem dX9_readWalker_0 : decode cX9_readWalker 0 = .ok (.aload_n 0, 1) := by decide +kernel
theorem dX9_readWalker_1 : decode cX9_readWalker 1 = .ok (.iconst 1, 1) := by decide +kernel
theorem dX9_readWalker_2 : decode cX9_readWalker 2 = .ok (.bipush 6, 2) := by decide +kernel
theorem dX9_readWalker_4 : decode cX9_readWalker 4 = .ok (.invokevirtual 138, 3) := by decide +kernel
theorem dX9_readWalker_7 : decode cX9_readWalker 7 = .ok (.aload_n 0, 1) := by decide +kernel
theorem dX9_readWalker_8 : decode cX9_readWalker 8 = .ok (.iconst 1, 1) := by decide +kernel
theorem dX9_readWalker_9 : decode cX9_readWalker 9 = .ok (.iconst 3, 1) := by decide +kernel
theorem dX9_readWalker_10 : decode cX9_readWalker 10 = .ok (.invokevirtual 142, 3) := by decide +kernel
theorem dX9_readWalker_13 : decode cX9_readWalker 13 = .ok (.istore_n 1, 1) := by decide +kernel
theorem dX9_readWalker_14 : decode cX9_readWalker 14 = .ok (.aload_n 0, 1) := by decide +kernel
theorem dX9_readWalker_15 : decode cX9_readWalker 15 = .ok (.iconst 0, 1) := by decide +kernel
theorem dX9_readWalker_16 : decode cX9_readWalker 16 = .ok (.iconst 2, 1) := by decide +kernel
theorem dX9_readWalker_17 : decode cX9_readWalker 17 = .ok (.invokevirtual 142, 3) := by decide +kernel
theorem dX9_readWalker_20 : decode cX9_readWalker 20 = .ok (.istore_n 2, 1) := by decide +kernel
theorem dX9_readWalker_21 : decode cX9_readWalker 21 = .ok (.aload_n 0, 1) := by decide +kernel
theorem dX9_readWalker_22 : decode cX9_readWalker 22 = .ok (.iconst 0, 1) := by decide +kernel
theorem dX9_readWalker_23 : decode cX9_readWalker 23 = .ok (.sipush 200, 3) := by decide +kernel
theorem dX9_readWalker_26 : decode cX9_readWalker 26 = .ok (.invokevirtual 142, 3) := by decide +kernel
theorem dX9_readWalker_29 : decode cX9_readWalker 29 = .ok (.istore_n 3, 1) := by decide +kernel
theorem dX9_readWalker_30 : decode cX9_readWalker 30 = .ok (.aload_n 0, 1) := by decide +kernel
theorem dX9_readWalker_31 : decode cX9_readWalker 31 = .ok (.iconst 1, 1) := by decide +kernel
theorem dX9_readWalker_32 : decode cX9_readWalker 32 = .ok (.bipush 20, 2) := by decide +kernel
theorem dX9_readWalker_34 : decode cX9_readWalker 34 = .ok (.invokevirtual 142, 3) := by decide +kernel
theorem dX9_readWalker_37 : decode cX9_readWalker 37 = .ok (.istore 4, 2) := by decide +kernel
theorem dX9_readWalker_39 : decode cX9_readWalker 39 = .ok (.aload_n 0, 1) := by decide +kernel
theorem dX9_readWalker_40 : decode cX9_readWalker 40 = .ok (.invokevirtual 146, 3) := by decide +kernel
theorem dX9_readWalker_43 : decode cX9_readWalker 43 = .ok (.aload_n 0, 1) := by decide +kernel
theorem dX9_readWalker_44 : decode cX9_readWalker 44 = .ok (.getfield 117, 3) := by decide +kernel
theorem dX9_readWalker_47 : decode cX9_readWalker 47 = .ok (.ifCond .ne 65, 3) := by decide +kernel
theorem dX9_readWalker_50 : decode cX9_readWalker 50 = .ok (.bipush 56, 2) := by decide +kernel
theorem dX9_readWalker_52 : decode cX9_readWalker 52 = .ok (.iconst 4, 1) := by decide +kernel
theorem dX9_readWalker_53 : decode cX9_readWalker 53 = .ok (.aload_n 0, 1) := by decide +kernel
theorem dX9_readWalker_54 : decode cX9_readWalker 54 = .ok (.getfield 22, 3) := by decide +kernel
theorem dX9_readWalker_57 : decode cX9_readWalker 57 = .ok (.iconst 1, 1) := by decide +kernel
theorem dX9_readWalker_58 : decode cX9_readWalker 58 = .ok (.iaload, 1) := by decide +kernel
theorem dX9_readWalker_59 : decode cX9_readWalker 59 = .ok (.imul, 1) := by decide +kernel
theorem dX9_readWalker_60 : decode cX9_readWalker 60 = .ok (.iadd, 1) := by decide +kernel
theorem dX9_readWalker_61 : decode cX9_readWalker 61 = .ok (.istore 5, 2) := by decide +kernel
theorem dX9_readWalker_63 : decode cX9_readWalker 63 = .ok (.aload_n 0, 1) := by decide +kernel
theorem dX9_readWalker_64 : decode cX9_readWalker 64 = .ok (.getfield 22, 3) := by decide +kernel
theorem dX9_readWalker_67 : decode cX9_readWalker 67 = .ok (.iload 5, 2) := by decide +kernel
theorem dX9_readWalker_69 : decode cX9_readWalker 69 = .ok (.iload_n 1, 1) := by decide +kernel
theorem dX9_readWalker_70 : decode cX9_readWalker 70 = .ok (.iastore, 1) := by decide +kernel
theorem dX9_readWalker_71 : decode cX9_readWalker 71 = .ok (.aload_n 0, 1) := by decide +kernel
theorem dX9_readWalker_72 : decode cX9_readWalker 72 = .ok (.getfield 22, 3) := by decide +kernel
theorem dX9_readWalker_75 : decode cX9_readWalker 75 = .ok (.iload 5, 2) := by decide +kernel
theorem dX9_readWalker_77 : decode cX9_readWalker 77 = .ok (.iconst 1, 1) := by decide +kernel
theorem dX9_readWalker_78 : decode cX9_readWalker 78 = .ok (.iadd, 1) := by decide +kernel
theorem dX9_readWalker_79 : decode cX9_readWalker 79 = .ok (.iload_n 2, 1) := by decide +kernel
theorem dX9_readWalker_80 : decode cX9_readWalker 80 = .ok (.iastore, 1) := by decide +kernel
theorem dX9_readWalker_81 : decode cX9_readWalker 81 = .ok (.aload_n 0, 1) := by decide +kernel
theorem dX9_readWalker_82 : decode cX9_readWalker 82 = .ok (.getfield 22, 3) := by decide +kernel
theorem dX9_readWalker_85 : decode cX9_readWalker 85 = .ok (.iload 5, 2) := by decide +kernel
theorem dX9_readWalker_87 : decode cX9_readWalker 87 = .ok (.iconst 2, 1) := by decide +kernel
theorem dX9_readWalker_88 : decode cX9_readWalker 88 = .ok (.iadd, 1) := by decide +kernel
theorem dX9_readWalker_89 : decode cX9_readWalker 89 = .ok (.iload_n 3, 1) := by decide +kernel
theorem dX9_readWalker_90 : decode cX9_readWalker 90 = .ok (.iastore, 1) := by decide +kernel
theorem dX9_readWalker_91 : decode cX9_readWalker 91 = .ok (.aload_n 0, 1) := by decide +kernel
theorem dX9_readWalker_92 : decode cX9_readWalker 92 = .ok (.getfield 22, 3) := by decide +kernel
theorem dX9_readWalker_95 : decode cX9_readWalker 95 = .ok (.iload 5, 2) := by decide +kernel
theorem dX9_readWalker_97 : decode cX9_readWalker 97 = .ok (.iconst 3, 1) := by decide +kernel
theorem dX9_readWalker_98 : decode cX9_readWalker 98 = .ok (.iadd, 1) := by decide +kernel
theorem dX9_readWalker_99 : decode cX9_readWalker 99 = .ok (.iload 4, 2) := by decide +kernel
theorem dX9_readWalker_101 : decode cX9_readWalker 101 = .ok (.iastore, 1) := by decide +kernel
theorem dX9_readWalker_102 : decode cX9_readWalker 102 = .ok (.aload_n 0, 1) := by decide +kernel
theorem dX9_readWalker_103 : decode cX9_readWalker 103 = .ok (.getfield 22, 3) := by decide +kernel
theorem dX9_readWalker_106 : decode cX9_readWalker 106 = .ok (.iconst 1, 1) := by decide +kernel
theorem dX9_readWalker_107 : decode cX9_readWalker 107 = .ok (.dup2, 1) := by decide +kernel
theorem dX9_readWalker_108 : decode cX9_readWalker 108 = .ok (.iaload, 1) := by decide +kernel
theorem dX9_readWalker_109 : decode cX9_readWalker 109 = .ok (.iconst 1, 1) := by decide +kernel
theorem dX9_readWalker_110 : decode cX9_readWalker 110 = .ok (.iadd, 1) := by decide +kernel
theorem dX9_readWalker_111 : decode cX9_readWalker 111 = .ok (.iastore, 1) := by decide +kernel
theorem dX9_readWalker_112 : decode cX9_readWalker 112 = .ok (.return_, 1) := by decide +kernel
theorem dX9_stair_0 : decode cX9_stair 0 = .ok (.aload_n 0, 1) := by decide +kernel
theorem dX9_stair_1 : decode cX9_stair 1 = .ok (.iconst 0, 1) := by decide +kernel
theorem dX9_stair_2 : decode cX9_stair 2 = .ok (.putfield 59, 3) := by decide +kernel
theorem dX9_stair_5 : decode cX9_stair 5 = .ok (.aload_n 0, 1) := by decide +kernel
theorem dX9_stair_6 : decode cX9_stair 6 = .ok (.invokevirtual 149, 3) := by decide +kernel
theorem dX9_stair_9 : decode cX9_stair 9 = .ok (.iconst 0, 1) := by decide +kernel
theorem dX9_stair_10 : decode cX9_stair 10 = .ok (.istore_n 1, 1) := by decide +kernel
theorem dX9_stair_11 : decode cX9_stair 11 = .ok (.iload_n 1, 1) := by decide +kernel
theorem dX9_stair_12 : decode cX9_stair 12 = .ok (.bipush 80, 2) := by decide +kernel
theorem dX9_stair_14 : decode cX9_stair 14 = .ok (.if_icmp .ge 16, 3) := by decide +kernel
theorem dX9_stair_17 : decode cX9_stair 17 = .ok (.aload_n 0, 1) := by decide +kernel
theorem dX9_stair_18 : decode cX9_stair 18 = .ok (.getfield 22, 3) := by decide +kernel
theorem dX9_stair_21 : decode cX9_stair 21 = .ok (.iload_n 1, 1) := by decide +kernel
theorem dX9_stair_22 : decode cX9_stair 22 = .ok (.iconst 0, 1) := by decide +kernel
theorem dX9_stair_23 : decode cX9_stair 23 = .ok (.iastore, 1) := by decide +kernel
theorem dX9_stair_24 : decode cX9_stair 24 = .ok (.iinc 1 1, 3) := by decide +kernel
theorem dX9_stair_27 : decode cX9_stair 27 = .ok (.goto (-16), 3) := by decide +kernel
theorem dX9_stair_30 : decode cX9_stair 30 = .ok (.aload_n 0, 1) := by decide +kernel
theorem dX9_stair_31 : decode cX9_stair 31 = .ok (.invokevirtual 152, 3) := by decide +kernel
theorem dX9_stair_34 : decode cX9_stair 34 = .ok (.ldc2_w 156, 3) := by decide +kernel
theorem dX9_stair_37 : decode cX9_stair 37 = .ok (.lcmp, 1) := by decide +kernel
theorem dX9_stair_38 : decode cX9_stair 38 = .ok (.ifCond .eq 8, 3) := by decide +kernel
theorem dX9_stair_41 : decode cX9_stair 41 = .ok (.aload_n 0, 1) := by decide +kernel
theorem dX9_stair_42 : decode cX9_stair 42 = .ok (.iconst 1, 1) := by decide +kernel
theorem dX9_stair_43 : decode cX9_stair 43 = .ok (.invokevirtual 126, 3) := by decide +kernel
theorem dX9_stair_46 : decode cX9_stair 46 = .ok (.aload_n 0, 1) := by decide +kernel
theorem dX9_stair_47 : decode cX9_stair 47 = .ok (.invokevirtual 152, 3) := by decide +kernel
theorem dX9_stair_50 : decode cX9_stair 50 = .ok (.ldc2_w 156, 3) := by decide +kernel
theorem dX9_stair_53 : decode cX9_stair 53 = .ok (.lcmp, 1) := by decide +kernel
theorem dX9_stair_54 : decode cX9_stair 54 = .ok (.ifCond .ne 10, 3) := by decide +kernel
theorem dX9_stair_57 : decode cX9_stair 57 = .ok (.aload_n 0, 1) := by decide +kernel
theorem dX9_stair_58 : decode cX9_stair 58 = .ok (.invokevirtual 158, 3) := by decide +kernel
theorem dX9_stair_61 : decode cX9_stair 61 = .ok (.goto (-15), 3) := by decide +kernel
theorem dX9_stair_64 : decode cX9_stair 64 = .ok (.aload_n 0, 1) := by decide +kernel
theorem dX9_stair_65 : decode cX9_stair 65 = .ok (.invokevirtual 152, 3) := by decide +kernel
theorem dX9_stair_68 : decode cX9_stair 68 = .ok (.ldc2_w 161, 3) := by decide +kernel
theorem dX9_stair_71 : decode cX9_stair 71 = .ok (.lcmp, 1) := by decide +kernel
theorem dX9_stair_72 : decode cX9_stair 72 = .ok (.ifCond .ne 10, 3) := by decide +kernel
theorem dX9_stair_75 : decode cX9_stair 75 = .ok (.aload_n 0, 1) := by decide +kernel
theorem dX9_stair_76 : decode cX9_stair 76 = .ok (.invokevirtual 163, 3) := by decide +kernel
theorem dX9_stair_79 : decode cX9_stair 79 = .ok (.goto (-15), 3) := by decide +kernel
theorem dX9_stair_82 : decode cX9_stair 82 = .ok (.aload_n 0, 1) := by decide +kernel
theorem dX9_stair_83 : decode cX9_stair 83 = .ok (.getfield 117, 3) := by decide +kernel
theorem dX9_stair_86 : decode cX9_stair 86 = .ok (.ifCond .ne 16, 3) := by decide +kernel
theorem dX9_stair_89 : decode cX9_stair 89 = .ok (.aload_n 0, 1) := by decide +kernel
theorem dX9_stair_90 : decode cX9_stair 90 = .ok (.getfield 105, 3) := by decide +kernel
theorem dX9_stair_93 : decode cX9_stair 93 = .ok (.iconst 1, 1) := by decide +kernel
theorem dX9_stair_94 : decode cX9_stair 94 = .ok (.if_icmp .eq 8, 3) := by decide +kernel
theorem dX9_stair_97 : decode cX9_stair 97 = .ok (.aload_n 0, 1) := by decide +kernel
theorem dX9_stair_98 : decode cX9_stair 98 = .ok (.iconst 1, 1) := by decide +kernel
theorem dX9_stair_99 : decode cX9_stair 99 = .ok (.invokevirtual 126, 3) := by decide +kernel
theorem dX9_stair_102 : decode cX9_stair 102 = .ok (.aload_n 0, 1) := by decide +kernel
theorem dX9_stair_103 : decode cX9_stair 103 = .ok (.getfield 117, 3) := by decide +kernel
theorem dX9_stair_106 : decode cX9_stair 106 = .ok (.ifCond .le 19, 3) := by decide +kernel
theorem dX9_stair_109 : decode cX9_stair 109 = .ok (.aload_n 0, 1) := by decide +kernel
theorem dX9_stair_110 : decode cX9_stair 110 = .ok (.aload_n 0, 1) := by decide +kernel
theorem dX9_stair_111 : decode cX9_stair 111 = .ok (.getfield 117, 3) := by decide +kernel
theorem dX9_stair_114 : decode cX9_stair 114 = .ok (.putfield 166, 3) := by decide +kernel
theorem dX9_stair_117 : decode cX9_stair 117 = .ok (.ldc 169, 2) := by decide +kernel
theorem dX9_stair_119 : decode cX9_stair 119 = .ok (.aload_n 0, 1) := by decide +kernel
theorem dX9_stair_120 : decode cX9_stair 120 = .ok (.getfield 123, 3) := by decide +kernel
theorem dX9_stair_123 : decode cX9_stair 123 = .ok (.isub, 1) := by decide +kernel
theorem dX9_stair_124 : decode cX9_stair 124 = .ok (.ireturn, 1) := by decide +kernel
theorem dX9_stair_125 : decode cX9_stair 125 = .ok (.aload_n 0, 1) := by decide +kernel
theorem dX9_stair_126 : decode cX9_stair 126 = .ok (.iconst 1, 1) := by decide +kernel
theorem dX9_stair_127 : decode cX9_stair 127 = .ok (.putfield 170, 3) := by decide +kernel
theorem dX9_stair_130 : decode cX9_stair 130 = .ok (.aload_n 0, 1) := by decide +kernel
theorem dX9_stair_131 : decode cX9_stair 131 = .ok (.iconst 0, 1) := by decide +kernel
theorem dX9_stair_132 : decode cX9_stair 132 = .ok (.putfield 174, 3) := by decide +kernel
theorem dX9_stair_135 : decode cX9_stair 135 = .ok (.iconst 0, 1) := by decide +kernel
theorem dX9_stair_136 : decode cX9_stair 136 = .ok (.istore_n 1, 1) := by decide +kernel
theorem dX9_stair_137 : decode cX9_stair 137 = .ok (.iload_n 1, 1) := by decide +kernel
theorem dX9_stair_138 : decode cX9_stair 138 = .ok (.bipush 80, 2) := by decide +kernel
theorem dX9_stair_140 : decode cX9_stair 140 = .ok (.if_icmp .ge 21, 3) := by decide +kernel
theorem dX9_stair_143 : decode cX9_stair 143 = .ok (.aload_n 0, 1) := by decide +kernel
theorem dX9_stair_144 : decode cX9_stair 144 = .ok (.getfield 19, 3) := by decide +kernel
theorem dX9_stair_147 : decode cX9_stair 147 = .ok (.iload_n 1, 1) := by decide +kernel
theorem dX9_stair_148 : decode cX9_stair 148 = .ok (.aload_n 0, 1) := by decide +kernel
theorem dX9_stair_149 : decode cX9_stair 149 = .ok (.getfield 22, 3) := by decide +kernel
theorem dX9_stair_152 : decode cX9_stair 152 = .ok (.iload_n 1, 1) := by decide +kernel
theorem dX9_stair_153 : decode cX9_stair 153 = .ok (.iaload, 1) := by decide +kernel
theorem dX9_stair_154 : decode cX9_stair 154 = .ok (.iastore, 1) := by decide +kernel
theorem dX9_stair_155 : decode cX9_stair 155 = .ok (.iinc 1 1, 3) := by decide +kernel
theorem dX9_stair_158 : decode cX9_stair 158 = .ok (.goto (-21), 3) := by decide +kernel
theorem dX9_stair_161 : decode cX9_stair 161 = .ok (.aload_n 0, 1) := by decide +kernel
theorem dX9_stair_162 : decode cX9_stair 162 = .ok (.getfield 19, 3) := by decide +kernel
theorem dX9_stair_165 : decode cX9_stair 165 = .ok (.iconst 0, 1) := by decide +kernel
theorem dX9_stair_166 : decode cX9_stair 166 = .ok (.iaload, 1) := by decide +kernel
theorem dX9_stair_167 : decode cX9_stair 167 = .ok (.ireturn, 1) := by decide +kernel
theorem dX9_fault_0 : decode cX9_fault 0 = .ok (.aload_n 0, 1) := by decide +kernel
theorem dX9_fault_1 : decode cX9_fault 1 = .ok (.iconst 0, 1) := by decide +kernel
theorem dX9_fault_2 : decode cX9_fault 2 = .ok (.putfield 59, 3) := by decide +kernel
theorem dX9_fault_5 : decode cX9_fault 5 = .ok (.aload_n 0, 1) := by decide +kernel
theorem dX9_fault_6 : decode cX9_fault 6 = .ok (.getfield 166, 3) := by decide +kernel
theorem dX9_fault_9 : decode cX9_fault 9 = .ok (.ireturn, 1) := by decide +kernel
theorem dX9_isStep_0 : decode cX9_isStep 0 = .ok (.iload_n 1, 1) := by decide +kernel
theorem dX9_isStep_1 : decode cX9_isStep 1 = .ok (.i2l, 1) := by decide +kernel
theorem dX9_isStep_2 : decode cX9_isStep 2 = .ok (.lconst 0, 1) := by decide +kernel
theorem dX9_isStep_3 : decode cX9_isStep 3 = .ok (.aload_n 0, 1) := by decide +kernel
theorem dX9_isStep_4 : decode cX9_isStep 4 = .ok (.getfield 19, 3) := by decide +kernel
theorem dX9_isStep_7 : decode cX9_isStep 7 = .ok (.iconst 0, 1) := by decide +kernel
theorem dX9_isStep_8 : decode cX9_isStep 8 = .ok (.iaload, 1) := by decide +kernel
theorem dX9_isStep_9 : decode cX9_isStep 9 = .ok (.iconst 1, 1) := by decide +kernel
theorem dX9_isStep_10 : decode cX9_isStep 10 = .ok (.isub, 1) := by decide +kernel
theorem dX9_isStep_11 : decode cX9_isStep 11 = .ok (.i2l, 1) := by decide +kernel
theorem dX9_isStep_12 : decode cX9_isStep 12 = .ok (.invokestatic 69, 3) := by decide +kernel
theorem dX9_isStep_15 : decode cX9_isStep 15 = .ok (.ireturn, 1) := by decide +kernel
theorem dX9_isWalker_0 : decode cX9_isWalker 0 = .ok (.iload_n 1, 1) := by decide +kernel
theorem dX9_isWalker_1 : decode cX9_isWalker 1 = .ok (.i2l, 1) := by decide +kernel
theorem dX9_isWalker_2 : decode cX9_isWalker 2 = .ok (.lconst 0, 1) := by decide +kernel
theorem dX9_isWalker_3 : decode cX9_isWalker 3 = .ok (.aload_n 0, 1) := by decide +kernel
theorem dX9_isWalker_4 : decode cX9_isWalker 4 = .ok (.getfield 19, 3) := by decide +kernel
theorem dX9_isWalker_7 : decode cX9_isWalker 7 = .ok (.iconst 1, 1) := by decide +kernel
theorem dX9_isWalker_8 : decode cX9_isWalker 8 = .ok (.iaload, 1) := by decide +kernel
theorem dX9_isWalker_9 : decode cX9_isWalker 9 = .ok (.iconst 1, 1) := by decide +kernel
theorem dX9_isWalker_10 : decode cX9_isWalker 10 = .ok (.isub, 1) := by decide +kernel
theorem dX9_isWalker_11 : decode cX9_isWalker 11 = .ok (.i2l, 1) := by decide +kernel
theorem dX9_isWalker_12 : decode cX9_isWalker 12 = .ok (.invokestatic 69, 3) := by decide +kernel
theorem dX9_isWalker_15 : decode cX9_isWalker 15 = .ok (.ireturn, 1) := by decide +kernel
theorem dX9_isOwner_0 : decode cX9_isOwner 0 = .ok (.iload_n 0, 1) := by decide +kernel
theorem dX9_isOwner_1 : decode cX9_isOwner 1 = .ok (.i2l, 1) := by decide +kernel
theorem dX9_isOwner_2 : decode cX9_isOwner 2 = .ok (.lconst 0, 1) := by decide +kernel
theorem dX9_isOwner_3 : decode cX9_isOwner 3 = .ok (.ldc2_w 177, 3) := by decide +kernel
theorem dX9_isOwner_6 : decode cX9_isOwner 6 = .ok (.invokestatic 69, 3) := by decide +kernel
theorem dX9_isOwner_9 : decode cX9_isOwner 9 = .ok (.ireturn, 1) := by decide +kernel
theorem dX9_walker_0 : decode cX9_walker 0 = .ok (.aload_n 0, 1) := by decide +kernel
theorem dX9_walker_1 : decode cX9_walker 1 = .ok (.getfield 19, 3) := by decide +kernel
theorem dX9_walker_4 : decode cX9_walker 4 = .ok (.bipush 56, 2) := by decide +kernel
theorem dX9_walker_6 : decode cX9_walker 6 = .ok (.iconst 4, 1) := by decide +kernel
theorem dX9_walker_7 : decode cX9_walker 7 = .ok (.iload_n 1, 1) := by decide +kernel
theorem dX9_walker_8 : decode cX9_walker 8 = .ok (.imul, 1) := by decide +kernel
theorem dX9_walker_9 : decode cX9_walker 9 = .ok (.iadd, 1) := by decide +kernel
theorem dX9_walker_10 : decode cX9_walker 10 = .ok (.iload_n 2, 1) := by decide +kernel
theorem dX9_walker_11 : decode cX9_walker 11 = .ok (.iadd, 1) := by decide +kernel
theorem dX9_walker_12 : decode cX9_walker 12 = .ok (.iaload, 1) := by decide +kernel
theorem dX9_walker_13 : decode cX9_walker 13 = .ok (.ireturn, 1) := by decide +kernel
theorem dX9_isBroken_0 : decode cX9_isBroken 0 = .ok (.aload_n 0, 1) := by decide +kernel
theorem dX9_isBroken_1 : decode cX9_isBroken 1 = .ok (.getfield 19, 3) := by decide +kernel
theorem dX9_isBroken_4 : decode cX9_isBroken 4 = .ok (.iconst 2, 1) := by decide +kernel
theorem dX9_isBroken_5 : decode cX9_isBroken 5 = .ok (.iconst 3, 1) := by decide +kernel
theorem dX9_isBroken_6 : decode cX9_isBroken 6 = .ok (.iload_n 1, 1) := by decide +kernel
theorem dX9_isBroken_7 : decode cX9_isBroken 7 = .ok (.imul, 1) := by decide +kernel
theorem dX9_isBroken_8 : decode cX9_isBroken 8 = .ok (.iadd, 1) := by decide +kernel
