theorem dX12_within_0 : decode cX12_within 0 = .ok (.lload_n 0, 1) := by decide +kernel
theorem dX12_within_1 : decode cX12_within 1 = .ok (.lload_n 2, 1) := by decide +kernel
theorem dX12_within_2 : decode cX12_within 2 = .ok (.lcmp, 1) := by decide +kernel
theorem dX12_within_3 : decode cX12_within 3 = .ok (.ifCond .lt 14, 3) := by decide +kernel
theorem dX12_within_6 : decode cX12_within 6 = .ok (.lload_n 0, 1) := by decide +kernel
theorem dX12_within_7 : decode cX12_within 7 = .ok (.lload 4, 2) := by decide +kernel
theorem dX12_within_9 : decode cX12_within 9 = .ok (.lcmp, 1) := by decide +kernel
theorem dX12_within_10 : decode cX12_within 10 = .ok (.ifCond .gt 7, 3) := by decide +kernel
theorem dX12_within_13 : decode cX12_within 13 = .ok (.iconst 1, 1) := by decide +kernel
theorem dX12_within_14 : decode cX12_within 14 = .ok (.goto 4, 3) := by decide +kernel
theorem dX12_within_17 : decode cX12_within 17 = .ok (.iconst 0, 1) := by decide +kernel
theorem dX12_within_18 : decode cX12_within 18 = .ok (.ireturn, 1) := by decide +kernel
theorem dX12_twinsIn_0 : decode cX12_twinsIn 0 = .ok (.iconst 0, 1) := by decide +kernel
theorem dX12_twinsIn_1 : decode cX12_twinsIn 1 = .ok (.istore_n 3, 1) := by decide +kernel
theorem dX12_twinsIn_2 : decode cX12_twinsIn 2 = .ok (.iconst 0, 1) := by decide +kernel
theorem dX12_twinsIn_3 : decode cX12_twinsIn 3 = .ok (.istore 4, 2) := by decide +kernel
theorem dX12_twinsIn_5 : decode cX12_twinsIn 5 = .ok (.iload 4, 2) := by decide +kernel
theorem dX12_twinsIn_7 : decode cX12_twinsIn 7 = .ok (.iconst 2, 1) := by decide +kernel
theorem dX12_twinsIn_8 : decode cX12_twinsIn 8 = .ok (.aload_n 0, 1) := by decide +kernel
theorem dX12_twinsIn_9 : decode cX12_twinsIn 9 = .ok (.getfield 13, 3) := by decide +kernel
theorem dX12_twinsIn_12 : decode cX12_twinsIn 12 = .ok (.iconst 3, 1) := by decide +kernel
theorem dX12_twinsIn_13 : decode cX12_twinsIn 13 = .ok (.iaload, 1) := by decide +kernel
theorem dX12_twinsIn_14 : decode cX12_twinsIn 14 = .ok (.imul, 1) := by decide +kernel
theorem dX12_twinsIn_15 : decode cX12_twinsIn 15 = .ok (.if_icmp .ge 39, 3) := by decide +kernel
theorem dX12_twinsIn_18 : decode cX12_twinsIn 18 = .ok (.iload_n 3, 1) := by decide +kernel
theorem dX12_twinsIn_19 : decode cX12_twinsIn 19 = .ok (.iload 4, 2) := by decide +kernel
theorem dX12_twinsIn_21 : decode cX12_twinsIn 21 = .ok (.iconst 2, 1) := by decide +kernel
theorem dX12_twinsIn_22 : decode cX12_twinsIn 22 = .ok (.idiv, 1) := by decide +kernel
theorem dX12_twinsIn_23 : decode cX12_twinsIn 23 = .ok (.iload_n 2, 1) := by decide +kernel
theorem dX12_twinsIn_24 : decode cX12_twinsIn 24 = .ok (.if_icmp .eq 21, 3) := by decide +kernel
theorem dX12_twinsIn_27 : decode cX12_twinsIn 27 = .ok (.aload_n 0, 1) := by decide +kernel
theorem dX12_twinsIn_28 : decode cX12_twinsIn 28 = .ok (.getfield 13, 3) := by decide +kernel
theorem dX12_twinsIn_31 : decode cX12_twinsIn 31 = .ok (.bipush 88, 2) := by decide +kernel
theorem dX12_twinsIn_33 : decode cX12_twinsIn 33 = .ok (.iload 4, 2) := by decide +kernel
theorem dX12_twinsIn_35 : decode cX12_twinsIn 35 = .ok (.iadd, 1) := by decide +kernel
theorem dX12_twinsIn_36 : decode cX12_twinsIn 36 = .ok (.iaload, 1) := by decide +kernel
theorem dX12_twinsIn_37 : decode cX12_twinsIn 37 = .ok (.iload_n 1, 1) := by decide +kernel
theorem dX12_twinsIn_38 : decode cX12_twinsIn 38 = .ok (.if_icmp .ne 7, 3) := by decide +kernel
theorem dX12_twinsIn_41 : decode cX12_twinsIn 41 = .ok (.iconst 1, 1) := by decide +kernel
theorem dX12_twinsIn_42 : decode cX12_twinsIn 42 = .ok (.goto 4, 3) := by decide +kernel
theorem dX12_twinsIn_45 : decode cX12_twinsIn 45 = .ok (.iconst 0, 1) := by decide +kernel
theorem dX12_twinsIn_46 : decode cX12_twinsIn 46 = .ok (.iadd, 1) := by decide +kernel
theorem dX12_twinsIn_47 : decode cX12_twinsIn 47 = .ok (.istore_n 3, 1) := by decide +kernel
theorem dX12_twinsIn_48 : decode cX12_twinsIn 48 = .ok (.iinc 4 1, 3) := by decide +kernel
theorem dX12_twinsIn_51 : decode cX12_twinsIn 51 = .ok (.goto (-46), 3) := by decide +kernel
theorem dX12_twinsIn_54 : decode cX12_twinsIn 54 = .ok (.iload_n 3, 1) := by decide +kernel
theorem dX12_twinsIn_55 : decode cX12_twinsIn 55 = .ok (.ireturn, 1) := by decide +kernel
theorem dX12_isFree_0 : decode cX12_isFree 0 = .ok (.aload_n 0, 1) := by decide +kernel
theorem dX12_isFree_1 : decode cX12_isFree 1 = .ok (.getfield 13, 3) := by decide +kernel
theorem dX12_isFree_4 : decode cX12_isFree 4 = .ok (.bipush 52, 2) := by decide +kernel
theorem dX12_isFree_6 : decode cX12_isFree 6 = .ok (.iload_n 2, 1) := by decide +kernel
theorem dX12_isFree_7 : decode cX12_isFree 7 = .ok (.iadd, 1) := by decide +kernel
theorem dX12_isFree_8 : decode cX12_isFree 8 = .ok (.iaload, 1) := by decide +kernel
theorem dX12_isFree_9 : decode cX12_isFree 9 = .ok (.ifCond .ne 16, 3) := by decide +kernel
theorem dX12_isFree_12 : decode cX12_isFree 12 = .ok (.aload_n 0, 1) := by decide +kernel
theorem dX12_isFree_13 : decode cX12_isFree 13 = .ok (.iload_n 2, 1) := by decide +kernel
theorem dX12_isFree_14 : decode cX12_isFree 14 = .ok (.iload_n 1, 1) := by decide +kernel
theorem dX12_isFree_15 : decode cX12_isFree 15 = .ok (.invokevirtual 220, 3) := by decide +kernel
theorem dX12_isFree_18 : decode cX12_isFree 18 = .ok (.ifCond .ne 7, 3) := by decide +kernel
theorem dX12_isFree_21 : decode cX12_isFree 21 = .ok (.iconst 1, 1) := by decide +kernel
theorem dX12_isFree_22 : decode cX12_isFree 22 = .ok (.goto 4, 3) := by decide +kernel
theorem dX12_isFree_25 : decode cX12_isFree 25 = .ok (.iconst 0, 1) := by decide +kernel
theorem dX12_isFree_26 : decode cX12_isFree 26 = .ok (.ireturn, 1) := by decide +kernel
theorem dX12_cells_0 : decode cX12_cells 0 = .ok (.aload_n 0, 1) := by decide +kernel
theorem dX12_cells_1 : decode cX12_cells 1 = .ok (.getfield 13, 3) := by decide +kernel
theorem dX12_cells_4 : decode cX12_cells 4 = .ok (.iconst 1, 1) := by decide +kernel
theorem dX12_cells_5 : decode cX12_cells 5 = .ok (.iaload, 1) := by decide +kernel
theorem dX12_cells_6 : decode cX12_cells 6 = .ok (.aload_n 0, 1) := by decide +kernel
theorem dX12_cells_7 : decode cX12_cells 7 = .ok (.getfield 13, 3) := by decide +kernel
theorem dX12_cells_10 : decode cX12_cells 10 = .ok (.iconst 2, 1) := by decide +kernel
theorem dX12_cells_11 : decode cX12_cells 11 = .ok (.iaload, 1) := by decide +kernel
theorem dX12_cells_12 : decode cX12_cells 12 = .ok (.imul, 1) := by decide +kernel
theorem dX12_cells_13 : decode cX12_cells 13 = .ok (.ireturn, 1) := by decide +kernel
theorem dX12_isCell_0 : decode cX12_isCell 0 = .ok (.lload_n 1, 1) := by decide +kernel
theorem dX12_isCell_1 : decode cX12_isCell 1 = .ok (.lconst 0, 1) := by decide +kernel
theorem dX12_isCell_2 : decode cX12_isCell 2 = .ok (.aload_n 0, 1) := by decide +kernel
theorem dX12_isCell_3 : decode cX12_isCell 3 = .ok (.invokevirtual 214, 3) := by decide +kernel
theorem dX12_isCell_6 : decode cX12_isCell 6 = .ok (.iconst 1, 1) := by decide +kernel
theorem dX12_isCell_7 : decode cX12_isCell 7 = .ok (.isub, 1) := by decide +kernel
theorem dX12_isCell_8 : decode cX12_isCell 8 = .ok (.i2l, 1) := by decide +kernel
theorem dX12_isCell_9 : decode cX12_isCell 9 = .ok (.invokestatic 139, 3) := by decide +kernel
theorem dX12_isCell_12 : decode cX12_isCell 12 = .ok (.ireturn, 1) := by decide +kernel
theorem dX12_plain_0 : decode cX12_plain 0 = .ok (.iconst 0, 1) := by decide +kernel
theorem dX12_plain_1 : decode cX12_plain 1 = .ok (.istore_n 1, 1) := by decide +kernel
theorem dX12_plain_2 : decode cX12_plain 2 = .ok (.iload_n 1, 1) := by decide +kernel
theorem dX12_plain_3 : decode cX12_plain 3 = .ok (.sipush 1515, 3) := by decide +kernel
theorem dX12_plain_6 : decode cX12_plain 6 = .ok (.if_icmp .ge 13, 3) := by decide +kernel
theorem dX12_plain_9 : decode cX12_plain 9 = .ok (.aload_n 0, 1) := by decide +kernel
theorem dX12_plain_10 : decode cX12_plain 10 = .ok (.iload_n 1, 1) := by decide +kernel
theorem dX12_plain_11 : decode cX12_plain 11 = .ok (.iconst 0, 1) := by decide +kernel
theorem dX12_plain_12 : decode cX12_plain 12 = .ok (.iastore, 1) := by decide +kernel
theorem dX12_plain_13 : decode cX12_plain 13 = .ok (.iinc 1 1, 3) := by decide +kernel
theorem dX12_plain_16 : decode cX12_plain 16 = .ok (.goto (-14), 3) := by decide +kernel
theorem dX12_plain_19 : decode cX12_plain 19 = .ok (.aload_n 0, 1) := by decide +kernel
theorem dX12_plain_20 : decode cX12_plain 20 = .ok (.iconst 1, 1) := by decide +kernel
theorem dX12_plain_21 : decode cX12_plain 21 = .ok (.iconst 1, 1) := by decide +kernel
theorem dX12_plain_22 : decode cX12_plain 22 = .ok (.iastore, 1) := by decide +kernel
theorem dX12_plain_23 : decode cX12_plain 23 = .ok (.aload_n 0, 1) := by decide +kernel
theorem dX12_plain_24 : decode cX12_plain 24 = .ok (.iconst 2, 1) := by decide +kernel
theorem dX12_plain_25 : decode cX12_plain 25 = .ok (.iconst 1, 1) := by decide +kernel
theorem dX12_plain_26 : decode cX12_plain 26 = .ok (.iastore, 1) := by decide +kernel
theorem dX12_plain_27 : decode cX12_plain 27 = .ok (.iconst 0, 1) := by decide +kernel
theorem dX12_plain_28 : decode cX12_plain 28 = .ok (.istore_n 1, 1) := by decide +kernel
theorem dX12_plain_29 : decode cX12_plain 29 = .ok (.iload_n 1, 1) := by decide +kernel
theorem dX12_plain_30 : decode cX12_plain 30 = .ok (.bipush 6, 2) := by decide +kernel
theorem dX12_plain_32 : decode cX12_plain 32 = .ok (.if_icmp .ge 23, 3) := by decide +kernel
theorem dX12_plain_35 : decode cX12_plain 35 = .ok (.aload_n 0, 1) := by decide +kernel
theorem dX12_plain_36 : decode cX12_plain 36 = .ok (.bipush 46, 2) := by decide +kernel
theorem dX12_plain_38 : decode cX12_plain 38 = .ok (.iload_n 1, 1) := by decide +kernel
theorem dX12_plain_39 : decode cX12_plain 39 = .ok (.iadd, 1) := by decide +kernel
theorem dX12_plain_40 : decode cX12_plain 40 = .ok (.iconst (-1), 1) := by decide +kernel
theorem dX12_plain_41 : decode cX12_plain 41 = .ok (.iastore, 1) := by decide +kernel
theorem dX12_plain_42 : decode cX12_plain 42 = .ok (.aload_n 0, 1) := by decide +kernel
theorem dX12_plain_43 : decode cX12_plain 43 = .ok (.bipush 88, 2) := by decide +kernel
theorem dX12_plain_45 : decode cX12_plain 45 = .ok (.iload_n 1, 1) := by decide +kernel
theorem dX12_plain_46 : decode cX12_plain 46 = .ok (.iadd, 1) := by decide +kernel
theorem dX12_plain_47 : decode cX12_plain 47 = .ok (.iconst (-1), 1) := by decide +kernel
theorem dX12_plain_48 : decode cX12_plain 48 = .ok (.iastore, 1) := by decide +kernel
theorem dX12_plain_49 : decode cX12_plain 49 = .ok (.iinc 1 1, 3) := by decide +kernel
theorem dX12_plain_52 : decode cX12_plain 52 = .ok (.goto (-23), 3) := by decide +kernel
theorem dX12_plain_55 : decode cX12_plain 55 = .ok (.return_, 1) := by decide +kernel
theorem dX12_feed_0 : decode cX12_feed 0 = .ok (.aload_n 0, 1) := by decide +kernel
theorem dX12_feed_1 : decode cX12_feed 1 = .ok (.iconst 0, 1) := by decide +kernel
theorem dX12_feed_2 : decode cX12_feed 2 = .ok (.putfield 1, 3) := by decide +kernel
theorem dX12_feed_5 : decode cX12_feed 5 = .ok (.aload_n 0, 1) := by decide +kernel
theorem dX12_feed_6 : decode cX12_feed 6 = .ok (.getfield 77, 3) := by decide +kernel
theorem dX12_feed_9 : decode cX12_feed 9 = .ok (.bipush 20, 2) := by decide +kernel
theorem dX12_feed_11 : decode cX12_feed 11 = .ok (.iadd, 1) := by decide +kernel
theorem dX12_feed_12 : decode cX12_feed 12 = .ok (.sipush 900, 3) := by decide +kernel
theorem dX12_feed_15 : decode cX12_feed 15 = .ok (.if_icmp .le 6, 3) := by decide +kernel
theorem dX12_feed_18 : decode cX12_feed 18 = .ok (.bipush (-5), 2) := by decide +kernel
theorem dX12_feed_20 : decode cX12_feed 20 = .ok (.ireturn, 1) := by decide +kernel
theorem dX12_feed_21 : decode cX12_feed 21 = .ok (.iconst 0, 1) := by decide +kernel
theorem dX12_feed_22 : decode cX12_feed 22 = .ok (.istore 6, 2) := by decide +kernel
theorem dX12_feed_24 : decode cX12_feed 24 = .ok (.iload 6, 2) := by decide +kernel
theorem dX12_feed_26 : decode cX12_feed 26 = .ok (.bipush 20, 2) := by decide +kernel
theorem dX12_feed_28 : decode cX12_feed 28 = .ok (.if_icmp .ge 93, 3) := by decide +kernel
theorem dX12_feed_31 : decode cX12_feed 31 = .ok (.iload 6, 2) := by decide +kernel
theorem dX12_feed_33 : decode cX12_feed 33 = .ok (.iconst 4, 1) := by decide +kernel
theorem dX12_feed_34 : decode cX12_feed 34 = .ok (.if_icmp .ge 7, 3) := by decide +kernel
theorem dX12_feed_37 : decode cX12_feed 37 = .ok (.iload_n 1, 1) := by decide +kernel
theorem dX12_feed_38 : decode cX12_feed 38 = .ok (.goto 39, 3) := by decide +kernel
theorem dX12_feed_41 : decode cX12_feed 41 = .ok (.iload 6, 2) := by decide +kernel
theorem dX12_feed_43 : decode cX12_feed 43 = .ok (.bipush 8, 2) := by decide +kernel
theorem dX12_feed_45 : decode cX12_feed 45 = .ok (.if_icmp .ge 7, 3) := by decide +kernel
theorem dX12_feed_48 : decode cX12_feed 48 = .ok (.iload_n 2, 1) := by decide +kernel
theorem dX12_feed_49 : decode cX12_feed 49 = .ok (.goto 28, 3) := by decide +kernel
theorem dX12_feed_52 : decode cX12_feed 52 = .ok (.iload 6, 2) := by decide +kernel
theorem dX12_feed_54 : decode cX12_feed 54 = .ok (.bipush 12, 2) := by decide +kernel
theorem dX12_feed_56 : decode cX12_feed 56 = .ok (.if_icmp .ge 7, 3) := by decide +kernel
theorem dX12_feed_59 : decode cX12_feed 59 = .ok (.iload_n 3, 1) := by decide +kernel
theorem dX12_feed_60 : decode cX12_feed 60 = .ok (.goto 17, 3) := by decide +kernel
theorem dX12_feed_63 : decode cX12_feed 63 = .ok (.iload 6, 2) := by decide +kernel
theorem dX12_feed_65 : decode cX12_feed 65 = .ok (.bipush 16, 2) := by decide +kernel
theorem dX12_feed_67 : decode cX12_feed 67 = .ok (.if_icmp .ge 8, 3) := by decide +kernel
theorem dX12_feed_70 : decode cX12_feed 70 = .ok (.iload 4, 2) := by decide +kernel
theorem dX12_feed_72 : decode cX12_feed 72 = .ok (.goto 5, 3) := by decide +kernel
theorem dX12_feed_75 : decode cX12_feed 75 = .ok (.iload 5, 2) := by decide +kernel
theorem dX12_feed_77 : decode cX12_feed 77 = .ok (.istore 7, 2) := by decide +kernel
theorem dX12_feed_79 : decode cX12_feed 79 = .ok (.aload_n 0, 1) := by decide +kernel
theorem dX12_feed_80 : decode cX12_feed 80 = .ok (.getfield 21, 3) := by decide +kernel
theorem dX12_feed_83 : decode cX12_feed 83 = .ok (.aload_n 0, 1) := by decide +kernel
theorem dX12_feed_84 : decode cX12_feed 84 = .ok (.getfield 77, 3) := by decide +kernel
theorem dX12_feed_87 : decode cX12_feed 87 = .ok (.iload 7, 2) := by decide +kernel
theorem dX12_feed_89 : decode cX12_feed 89 = .ok (.bipush 24, 2) := by decide +kernel
theorem dX12_feed_91 : decode cX12_feed 91 = .ok (.bipush 8, 2) := by decide +kernel
theorem dX12_feed_93 : decode cX12_feed 93 = .ok (.iload 6, 2) := by decide +kernel
theorem dX12_feed_95 : decode cX12_feed 95 = .ok (.iconst 4, 1) := by decide +kernel
theorem dX12_feed_96 : decode cX12_feed 96 = .ok (.irem, 1) := by decide +kernel
theorem dX12_feed_97 : decode cX12_feed 97 = .ok (.imul, 1) := by decide +kernel
theorem dX12_feed_98 : decode cX12_feed 98 = .ok (.isub, 1) := by decide +kernel
theorem dX12_feed_99 : decode cX12_feed 99 = .ok (.ishr, 1) := by decide +kernel
theorem dX12_feed_100 : decode cX12_feed 100 = .ok (.sipush 255, 3) := by decide +kernel
theorem dX12_feed_103 : decode cX12_feed 103 = .ok (.iand, 1) := by decide +kernel
theorem dX12_feed_104 : decode cX12_feed 104 = .ok (.iastore, 1) := by decide +kernel
theorem dX12_feed_105 : decode cX12_feed 105 = .ok (.aload_n 0, 1) := by decide +kernel
theorem dX12_feed_106 : decode cX12_feed 106 = .ok (.dup, 1) := by decide +kernel
theorem dX12_feed_107 : decode cX12_feed 107 = .ok (.getfield 77, 3) := by decide +kernel
theorem dX12_feed_110 : decode cX12_feed 110 = .ok (.iconst 1, 1) := by decide +kernel
theorem dX12_feed_111 : decode cX12_feed 111 = .ok (.iadd, 1) := by decide +kernel
theorem dX12_feed_112 : decode cX12_feed 112 = .ok (.putfield 77, 3) := by decide +kernel
theorem dX12_feed_115 : decode cX12_feed 115 = .ok (.iinc 6 1, 3) := by decide +kernel
theorem dX12_feed_118 : decode cX12_feed 118 = .ok (.goto (-94), 3) := by decide +kernel
theorem dX12_feed_121 : decode cX12_feed 121 = .ok (.aload_n 0, 1) := by decide +kernel
theorem dX12_feed_122 : decode cX12_feed 122 = .ok (.getfield 77, 3) := by decide +kernel
theorem dX12_feed_125 : decode cX12_feed 125 = .ok (.ireturn, 1) := by decide +kernel
theorem dX12_fails_0 : decode cX12_fails 0 = .ok (.aload_n 0, 1) := by decide +kernel
theorem dX12_fails_1 : decode cX12_fails 1 = .ok (.getfield 123, 3) := by decide +kernel
theorem dX12_fails_4 : decode cX12_fails 4 = .ok (.ifCond .eq 4, 3) := by decide +kernel
theorem dX12_fails_7 : decode cX12_fails 7 = .ok (.return_, 1) := by decide +kernel
theorem dX12_fails_8 : decode cX12_fails 8 = .ok (.aload_n 0, 1) := by decide +kernel
theorem dX12_fails_9 : decode cX12_fails 9 = .ok (.aload_n 0, 1) := by decide +kernel
theorem dX12_fails_10 : decode cX12_fails 10 = .ok (.getfield 105, 3) := by decide +kernel
theorem dX12_fails_13 : decode cX12_fails 13 = .ok (.bipush 25, 2) := by decide +kernel
theorem dX12_fails_15 : decode cX12_fails 15 = .ok (.if_icmp .ne 7, 3) := by decide +kernel
theorem dX12_fails_18 : decode cX12_fails 18 = .ok (.iconst 1, 1) := by decide +kernel
theorem dX12_fails_19 : decode cX12_fails 19 = .ok (.goto 4, 3) := by decide +kernel
theorem dX12_fails_22 : decode cX12_fails 22 = .ok (.iload_n 1, 1) := by decide +kernel
theorem dX12_fails_23 : decode cX12_fails 23 = .ok (.putfield 123, 3) := by decide +kernel
theorem dX12_fails_26 : decode cX12_fails 26 = .ok (.aload_n 0, 1) := by decide +kernel
theorem dX12_fails_27 : decode cX12_fails 27 = .ok (.aload_n 0, 1) := by decide +kernel
theorem dX12_fails_28 : decode cX12_fails 28 = .ok (.getfield 95, 3) := by decide +kernel
theorem dX12_fails_31 : decode cX12_fails 31 = .ok (.putfield 126, 3) := by decide +kernel
theorem dX12_fails_34 : decode cX12_fails 34 = .ok (.return_, 1) := by decide +kernel
theorem dX12_heightOf_0 : decode cX12_heightOf 0 = .ok (.aload_n 0, 1) := by decide +kernel
theorem dX12_heightOf_1 : decode cX12_heightOf 1 = .ok (.getfield 13, 3) := by decide +kernel
theorem dX12_heightOf_4 : decode cX12_heightOf 4 = .ok (.bipush 52, 2) := by decide +kernel
theorem dX12_heightOf_6 : decode cX12_heightOf 6 = .ok (.iload_n 1, 1) := by decide +kernel
theorem dX12_heightOf_7 : decode cX12_heightOf 7 = .ok (.iadd, 1) := by decide +kernel
theorem dX12_heightOf_8 : decode cX12_heightOf 8 = .ok (.iaload, 1) := by decide +kernel
theorem dX12_heightOf_9 : decode cX12_heightOf 9 = .ok (.iconst 1, 1) := by decide +kernel
theorem dX12_heightOf_10 : decode cX12_heightOf 10 = .ok (.if_icmp .ne 8, 3) := by decide +kernel
theorem dX12_heightOf_13 : decode cX12_heightOf 13 = .ok (.bipush 9, 2) := by decide +kernel
theorem dX12_heightOf_15 : decode cX12_heightOf 15 = .ok (.goto 30, 3) := by decide +kernel
theorem dX12_heightOf_18 : decode cX12_heightOf 18 = .ok (.aload_n 0, 1) := by decide +kernel
theorem dX12_heightOf_19 : decode cX12_heightOf 19 = .ok (.getfield 13, 3) := by decide +kernel
theorem dX12_heightOf_22 : decode cX12_heightOf 22 = .ok (.bipush 10, 2) := by decide +kernel
theorem dX12_heightOf_24 : decode cX12_heightOf 24 = .ok (.iload_n 1, 1) := by decide +kernel
theorem dX12_heightOf_25 : decode cX12_heightOf 25 = .ok (.iadd, 1) := by decide +kernel
theorem dX12_heightOf_26 : decode cX12_heightOf 26 = .ok (.iaload, 1) := by decide +kernel
theorem dX12_heightOf_27 : decode cX12_heightOf 27 = .ok (.bipush 9, 2) := by decide +kernel
theorem dX12_heightOf_29 : decode cX12_heightOf 29 = .ok (.if_icmp .ne 7, 3) := by decide +kernel
theorem dX12_heightOf_32 : decode cX12_heightOf 32 = .ok (.iconst 0, 1) := by decide +kernel
theorem dX12_heightOf_33 : decode cX12_heightOf 33 = .ok (.goto 12, 3) := by decide +kernel
theorem dX12_heightOf_36 : decode cX12_heightOf 36 = .ok (.aload_n 0, 1) := by decide +kernel
theorem dX12_heightOf_37 : decode cX12_heightOf 37 = .ok (.getfield 13, 3) := by decide +kernel
theorem dX12_heightOf_40 : decode cX12_heightOf 40 = .ok (.bipush 10, 2) := by decide +kernel
theorem dX12_heightOf_42 : decode cX12_heightOf 42 = .ok (.iload_n 1, 1) := by decide +kernel
theorem dX12_heightOf_43 : decode cX12_heightOf 43 = .ok (.iadd, 1) := by decide +kernel
theorem dX12_heightOf_44 : decode cX12_heightOf 44 = .ok (.iaload, 1) := by decide +kernel
theorem dX12_heightOf_45 : decode cX12_heightOf 45 = .ok (.ireturn, 1) := by decide +kernel
def f_X12_within (l0 : Int64) (l2 : Int64) (l4 : Int64) (g : G) : Option (Bool × G) :=
  if (lg_cmp l0 l2) < 0 then (some (false, g)) else (if 0 < (lg_cmp l0 l4) then (some (false, g)) else (some (true, g)))
def f_X12_twinsIn_46 (k5 : Nat → Int32 → Int32 → Int32 → Int32 → G → Option (Int32 × G)) (l0 : Nat) (l1 : Int32) (l2 : Int32) (l4 : Int32) (s0 : Int32) (s1 : Int32) (g : G) : Option (Int32 × G) :=
  li (s1 + s0) (fun y1 => k5 l0 l1 l2 y1 (l4 + (1 : Int32)) g)
def f_X12_twinsIn_45 (k5 : Nat → Int32 → Int32 → Int32 → Int32 → G → Option (Int32 × G)) (l0 : Nat) (l1 : Int32) (l2 : Int32) (l4 : Int32) (s0 : Int32) (g : G) : Option (Int32 × G) :=
  f_X12_twinsIn_46 k5 l0 l1 l2 l4 (0 : Int32) s0 g
def f_X12_twinsIn_5 : Nat → Nat → Int32 → Int32 → Int32 → Int32 → G → Option (Int32 × G)
  | 0, _, _, _, _, _, _ => none
  | n + 1, l0, l1, l2, l3, l4, g =>
  dr (gR g l0 1) (fun b1 => gdK g b1 14 (gdI (3 : Int32) (gN g b1) (if ((2 : Int32) * (gI g b1 (3 : Int32).toNatClampNeg)) ≤ l4 then (some (l3, g)) else (if (l4 / (2 : Int32)) = l2 then (f_X12_twinsIn_45 (f_X12_twinsIn_5 n) l0 l1 l2 l4 l3 g) else (gdI ((88 : Int32) + l4) (gN g b1) (if (gI g b1 ((88 : Int32) + l4).toNatClampNeg) = l1 then (f_X12_twinsIn_46 (f_X12_twinsIn_5 n) l0 l1 l2 l4 (1 : Int32) l3 g) else (f_X12_twinsIn_45 (f_X12_twinsIn_5 n) l0 l1 l2 l4 l3 g)))))))
def f_X12_twinsIn (l0 : Nat) (l1 : Int32) (l2 : Int32) (g : G) : Option (Int32 × G) :=
  f_X12_twinsIn_5 FU l0 l1 l2 (0 : Int32) (0 : Int32) g
def f_X12_isFree (l0 : Nat) (l1 : Int32) (l2 : Int32) (g : G) : Option (Bool × G) :=
  dr (gR g l0 1) (fun b1 => gdK g b1 14 (gdI ((52 : Int32) + l2) (gN g b1) (if (gI g b1 ((52 : Int32) + l2).toNatClampNeg) = 0 then (bd (f_X12_twinsIn l0 l2 l1 g) (fun v6 g7 => if v6 = 0 then (some (true, g7)) else (some (false, g7)))) else (some (false, g)))))
def f_X12_cells (l0 : Nat) (g : G) : Option (Int32 × G) :=
  dr (gR g l0 1) (fun b1 => gdK g b1 14 (gdI (1 : Int32) (gN g b1) (gdI (2 : Int32) (gN g b1) (some (((gI g b1 (1 : Int32).toNatClampNeg) * (gI g b1 (2 : Int32).toNatClampNeg)), g)))))
def f_X12_isCell (l0 : Nat) (l1 : Int64) (g : G) : Option (Bool × G) :=
  bd (f_X12_cells l0 g) (fun v1 g2 => bd (f_X12_within l1 (0 : Int64) ((v1 - (1 : Int32)).toInt64) g2) (fun v5 g6 => some (v5, g6)))
def f_X12_plain_29 : Nat → Nat → Int32 → G → Option (Unit × G)
  | 0, _, _, _ => none
  | n + 1, l0, l1, g =>
  if (6 : Int32) ≤ l1 then (some ((), g)) else (gdI ((46 : Int32) + l1) (gN g l0) (gdI ((88 : Int32) + l1) (gN (sI g l0 ((46 : Int32) + l1).toNatClampNeg (-1 : Int32)) l0) (f_X12_plain_29 n l0 (l1 + (1 : Int32)) (sI (sI g l0 ((46 : Int32) + l1).toNatClampNeg (-1 : Int32)) l0 ((88 : Int32) + l1).toNatClampNeg (-1 : Int32)))))
def f_X12_plain_2 : Nat → Nat → Int32 → G → Option (Unit × G)
  | 0, _, _, _ => none
  | n + 1, l0, l1, g =>
  if (1515 : Int32) ≤ l1 then (gdI (1 : Int32) (gN g l0) (gdI (2 : Int32) (gN (sI g l0 (1 : Int32).toNatClampNeg (1 : Int32)) l0) (f_X12_plain_29 FU l0 (0 : Int32) (sI (sI g l0 (1 : Int32).toNatClampNeg (1 : Int32)) l0 (2 : Int32).toNatClampNeg (1 : Int32))))) else (gdI l1 (gN g l0) (f_X12_plain_2 n l0 (l1 + (1 : Int32)) (sI g l0 l1.toNatClampNeg (0 : Int32))))
def f_X12_plain (l0 : Nat) (g : G) : Option (Unit × G) :=
  f_X12_plain_2 FU l0 (0 : Int32) g
def f_X12_feed_77 (k24 : Nat → Int32 → Int32 → Int32 → Int32 → Int32 → Int32 → G → Option (Int32 × G)) (l0 : Nat) (l1 : Int32) (l2 : Int32) (l3 : Int32) (l4 : Int32) (l5 : Int32) (l6 : Int32) (s0 : Int32) (g : G) : Option (Int32 × G) :=
  dr (gR g l0 3) (fun b1 => gdK g b1 14 (gdI (gI g l0 5) (gN g b1) (k24 l0 l1 l2 l3 l4 l5 (l6 + (1 : Int32)) (sI (sI g b1 (gI g l0 5).toNatClampNeg ((s0 >>> (((24 : Int32) - ((8 : Int32) * (l6 - l6 / (4 : Int32) * (4 : Int32)))) &&& 31)) &&& (255 : Int32))) l0 5 ((gI (sI g b1 (gI g l0 5).toNatClampNeg ((s0 >>> (((24 : Int32) - ((8 : Int32) * (l6 - l6 / (4 : Int32) * (4 : Int32)))) &&& 31)) &&& (255 : Int32))) l0 5) + (1 : Int32))))))
def f_X12_feed_24 : Nat → Nat → Int32 → Int32 → Int32 → Int32 → Int32 → Int32 → G → Option (Int32 × G)
  | 0, _, _, _, _, _, _, _, _ => none
  | n + 1, l0, l1, l2, l3, l4, l5, l6, g =>
  if (20 : Int32) ≤ l6 then (some ((gI g l0 5), g)) else (if (4 : Int32) ≤ l6 then (if (8 : Int32) ≤ l6 then (if (12 : Int32) ≤ l6 then (if (16 : Int32) ≤ l6 then (f_X12_feed_77 (f_X12_feed_24 n) l0 l1 l2 l3 l4 l5 l6 l5 g) else (f_X12_feed_77 (f_X12_feed_24 n) l0 l1 l2 l3 l4 l5 l6 l4 g)) else (f_X12_feed_77 (f_X12_feed_24 n) l0 l1 l2 l3 l4 l5 l6 l3 g)) else (f_X12_feed_77 (f_X12_feed_24 n) l0 l1 l2 l3 l4 l5 l6 l2 g)) else (f_X12_feed_77 (f_X12_feed_24 n) l0 l1 l2 l3 l4 l5 l6 l1 g))
def f_X12_feed (l0 : Nat) (l1 : Int32) (l2 : Int32) (l3 : Int32) (l4 : Int32) (l5 : Int32) (g : G) : Option (Int32 × G) :=
  if ((gI (sI g l0 0 (0 : Int32)) l0 5) + (20 : Int32)) ≤ (900 : Int32) then (f_X12_feed_24 FU l0 l1 l2 l3 l4 l5 (0 : Int32) (sI g l0 0 (0 : Int32))) else (some ((-5 : Int32), (sI g l0 0 (0 : Int32))))
def f_X12_fails_23 (l0 : Nat) (s0 : Int32) (s1 : Nat) (g : G) : Option (Unit × G) :=
  some ((), (sI (sI g s1 11 s0) l0 12 (gI (sI g s1 11 s0) l0 6)))
def f_X12_fails (l0 : Nat) (l1 : Int32) (g : G) : Option (Unit × G) :=
  if (gI g l0 11) = 0 then (if (gI g l0 9) = (25 : Int32) then (f_X12_fails_23 l0 (1 : Int32) l0 g) else (f_X12_fails_23 l0 l1 l0 g)) else (some ((), g))
def f_X12_heightOf (l0 : Nat) (l1 : Int32) (g : G) : Option (Int32 × G) :=
  dr (gR g l0 1) (fun b1 => gdK g b1 14 (gdI ((52 : Int32) + l1) (gN g b1) (if (gI g b1 ((52 : Int32) + l1).toNatClampNeg) = (1 : Int32) then (some ((9 : Int32), g)) else (gdI ((10 : Int32) + l1) (gN g b1) (if (gI g b1 ((10 : Int32) + l1).toNatClampNeg) = (9 : Int32) then (some ((0 : Int32), g)) else (some ((gI g b1 ((10 : Int32) + l1).toNatClampNeg), g)))))))
set_option maxRecDepth 10000 in
theorem w_X12_within {X : CX} {d : Nat} (hd : 0 ≤ d) (l0 : Int64) (l2 : Int64) (l4 : Int64) (g g' : G) (rx : Bool) (h : f_X12_within l0 l2 l4 g = some (rx, g')) : Sem X m_X12_within d [.long l0, .long l2, .long l4] g (some (.int (b2i rx))) g' := by
  refine Sem_of (lo := [(0, .long l0), (2, .long l2), (4, .long l4)]) (by decide +kernel) rfl (Nat.le_of_ble_eq_true rfl) ?_
  rw [f_X12_within] at h
  refine SF_lload_n 0 1 dX12_within_0 rfl rfl rfl ?_
  refine SF_lload_n 1 2 dX12_within_1 rfl rfl rfl ?_
  refine SF_lcmp 3 dX12_within_2 rfl ?_
  refine SF_iflt 17 6 dX12_within_3 rfl rfl (fun c1 => ?_) (fun c1 => ?_)
  · have h := ite_t c1 h
    refine SF_iconst (0 : Int32) 18 dX12_within_17 rfl rfl ?_
    exact RT_b rfl rfl dX12_within_18 h
  · have h := ite_f c1 h
    refine SF_lload_n 0 7 dX12_within_6 rfl rfl rfl ?_
    refine SF_lload 2 9 dX12_within_7 rfl rfl ?_
    refine SF_lcmp 10 dX12_within_9 rfl ?_
    refine SF_ifgt 17 13 dX12_within_10 rfl rfl (fun c2 => ?_) (fun c2 => ?_)
    · have h := ite_t c2 h
      refine SF_iconst (0 : Int32) 18 dX12_within_17 rfl rfl ?_
      exact RT_b rfl rfl dX12_within_18 h
    · have h := ite_f c2 h
      refine SF_iconst (1 : Int32) 14 dX12_within_13 rfl rfl ?_
      refine SF_goto 18 dX12_within_14 rfl ?_
      exact RT_b rfl rfl dX12_within_18 h

set_option maxRecDepth 10000 in
theorem w_X12_twinsIn_46 {X : CX} {d : Nat} (hd : 0 ≤ d) {g' : G} {rx : Int32} (k5 : Nat → Int32 → Int32 → Int32 → Int32 → G → Option (Int32 × G)) (hk5 : ∀ (l0 : Nat) (l1 : Int32) (l2 : Int32) (l3 : Int32) (l4 : Int32) (g : G), KD g l0 12 → k5 l0 l1 l2 l3 l4 g = some (rx, g') → SemF X m_X12_twinsIn d 5 [(0, .ref (ad X l0)), (1, .int l1), (2, .int l2), (3, .int l3), (4, .int l4)] [] g (some (.int rx)) g') (l0 : Nat) (l1 : Int32) (l2 : Int32) (l4 : Int32) (s0 : Int32) (s1 : Int32) (g : G) (k_l0 : KD g l0 12) (h : f_X12_twinsIn_46 k5 l0 l1 l2 l4 s0 s1 g = some (rx, g')) : SemF X m_X12_twinsIn d 46 [(0, .ref (ad X l0)), (1, .int l1), (2, .int l2), (4, .int l4)] [.int s0, .int s1] g (some (.int rx)) g' := by
  rw [f_X12_twinsIn_46] at h
  refine SF_iadd 47 dX12_twinsIn_46 rfl ?_
  obtain ⟨y1, e2, h⟩ := li_some h
  refine SF_eqI e2 ?_
  refine SF_istore_n [(3, .int y1), (0, .ref (ad X l0)), (1, .int l1), (2, .int l2), (4, .int l4)] 48 dX12_twinsIn_47 rfl (by decide) rfl rfl ?_
  refine SF_iinc 4 (l4 + (1 : Int32)) [(4, .int (l4 + (1 : Int32))), (3, .int y1), (0, .ref (ad X l0)), (1, .int l1), (2, .int l2)] 51 dX12_twinsIn_48 rfl rfl (by decide) rfl rfl ?_
  refine SF_goto 5 dX12_twinsIn_51 rfl ?_
  refine SF_sub [2, 3, 4, 1, 0] rfl ?_
  exact hk5 l0 l1 l2 y1 (l4 + (1 : Int32)) g k_l0 h

set_option maxRecDepth 10000 in
theorem w_X12_twinsIn_45 {X : CX} {d : Nat} (hd : 0 ≤ d) {g' : G} {rx : Int32} (k5 : Nat → Int32 → Int32 → Int32 → Int32 → G → Option (Int32 × G)) (hk5 : ∀ (l0 : Nat) (l1 : Int32) (l2 : Int32) (l3 : Int32) (l4 : Int32) (g : G), KD g l0 12 → k5 l0 l1 l2 l3 l4 g = some (rx, g') → SemF X m_X12_twinsIn d 5 [(0, .ref (ad X l0)), (1, .int l1), (2, .int l2), (3, .int l3), (4, .int l4)] [] g (some (.int rx)) g') (l0 : Nat) (l1 : Int32) (l2 : Int32) (l4 : Int32) (s0 : Int32) (g : G) (k_l0 : KD g l0 12) (h : f_X12_twinsIn_45 k5 l0 l1 l2 l4 s0 g = some (rx, g')) : SemF X m_X12_twinsIn d 45 [(0, .ref (ad X l0)), (1, .int l1), (2, .int l2), (4, .int l4)] [.int s0] g (some (.int rx)) g' := by
  rw [f_X12_twinsIn_45] at h
  refine SF_iconst (0 : Int32) 46 dX12_twinsIn_45 rfl rfl ?_
  exact w_X12_twinsIn_46 hd k5 hk5 l0 l1 l2 l4 (0 : Int32) s0 g k_l0 h

set_option maxRecDepth 10000 in
theorem w_X12_twinsIn_5 {X : CX} {d : Nat} (hd : 0 ≤ d) {g' : G} {rx : Int32} : ∀ (n : Nat) (l0 : Nat) (l1 : Int32) (l2 : Int32) (l3 : Int32) (l4 : Int32) (g : G), KD g l0 12 → f_X12_twinsIn_5 n l0 l1 l2 l3 l4 g = some (rx, g') → SemF X m_X12_twinsIn d 5 [(0, .ref (ad X l0)), (1, .int l1), (2, .int l2), (3, .int l3), (4, .int l4)] [] g (some (.int rx)) g' := by
  intro n
  induction n with
  | zero =>
    intro l0 l1 l2 l3 l4 g k_l0 h
    rw [f_X12_twinsIn_5] at h
    cases h
  | succ n ih =>
  intro l0 l1 l2 l3 l4 g k_l0 h
  rw [f_X12_twinsIn_5] at h
  refine SF_iload 4 7 dX12_twinsIn_5 rfl rfl ?_
  refine SF_iconst (2 : Int32) 8 dX12_twinsIn_7 rfl rfl ?_
  refine SF_aload_n 0 9 dX12_twinsIn_8 rfl rfl rfl ?_
  obtain ⟨b1, r2, h⟩ := dr_some h
  refine SF_getR 12 fl_X12_13 dX12_twinsIn_9 k_l0.1 r2 rfl ?_
  refine SF_iconst (3 : Int32) 13 dX12_twinsIn_12 rfl rfl ?_
  obtain ⟨k3, h⟩ := gdK_some h
  obtain ⟨i4, h⟩ := gdI_some h
  refine SF_iald 14 dX12_twinsIn_13 k3.1 i4 rfl ?_
  refine SF_imul 15 dX12_twinsIn_14 rfl ?_
  refine SF_icge 54 18 dX12_twinsIn_15 rfl rfl (fun c5 => ?_) (fun c5 => ?_)
  · have h := ite_t c5 h
    refine SF_iload_n 3 55 dX12_twinsIn_54 rfl rfl rfl ?_
    exact RT_i rfl dX12_twinsIn_55 h
  · have h := ite_f c5 h
    refine SF_iload_n 3 19 dX12_twinsIn_18 rfl rfl rfl ?_
    refine SF_iload 4 21 dX12_twinsIn_19 rfl rfl ?_
    refine SF_iconst (2 : Int32) 22 dX12_twinsIn_21 rfl rfl ?_
    refine SF_idiv 23 dX12_twinsIn_22 (by decide) rfl ?_
    refine SF_iload_n 2 24 dX12_twinsIn_23 rfl rfl rfl ?_
    refine SF_iceq 45 27 dX12_twinsIn_24 rfl rfl (fun c6 => ?_) (fun c6 => ?_)
    · have h := ite_t c6 h
      refine SF_sub [0, 1, 2, 4] rfl ?_
      exact w_X12_twinsIn_45 hd (f_X12_twinsIn_5 n) ih l0 l1 l2 l4 l3 g k_l0 h
    · have h := ite_f c6 h
      refine SF_aload_n 0 28 dX12_twinsIn_27 rfl rfl rfl ?_
      refine SF_getR 31 fl_X12_13 dX12_twinsIn_28 k_l0.1 r2 rfl ?_
      refine SF_bipush (88 : Int32) 33 dX12_twinsIn_31 rfl rfl ?_
      refine SF_iload 4 35 dX12_twinsIn_33 rfl rfl ?_
      refine SF_iadd 36 dX12_twinsIn_35 rfl ?_
      obtain ⟨i7, h⟩ := gdI_some h
      refine SF_iald 37 dX12_twinsIn_36 k3.1 i7 rfl ?_
      refine SF_iload_n 1 38 dX12_twinsIn_37 rfl rfl rfl ?_
      refine SF_icne 45 41 dX12_twinsIn_38 rfl rfl (fun c8 => ?_) (fun c8 => ?_)
      · have h := ite_f c8 h
        refine SF_sub [0, 1, 2, 4] rfl ?_
        exact w_X12_twinsIn_45 hd (f_X12_twinsIn_5 n) ih l0 l1 l2 l4 l3 g k_l0 h
      · have h := ite_t c8 h
        refine SF_iconst (1 : Int32) 42 dX12_twinsIn_41 rfl rfl ?_
        refine SF_goto 46 dX12_twinsIn_42 rfl ?_
        refine SF_sub [0, 1, 2, 4] rfl ?_
        exact w_X12_twinsIn_46 hd (f_X12_twinsIn_5 n) ih l0 l1 l2 l4 (1 : Int32) l3 g k_l0 h

set_option maxRecDepth 10000 in
theorem w_X12_twinsIn {X : CX} {d : Nat} (hd : 0 ≤ d) (l0 : Nat) (l1 : Int32) (l2 : Int32) (g g' : G) (rx : Int32) (k_l0 : KD g l0 12) (h : f_X12_twinsIn l0 l1 l2 g = some (rx, g')) : Sem X m_X12_twinsIn d [.ref (ad X l0), .int l1, .int l2] g (some (.int rx)) g' := by
  refine Sem_of (lo := [(0, .ref (ad X l0)), (1, .int l1), (2, .int l2)]) (by decide +kernel) rfl (Nat.le_of_ble_eq_true rfl) ?_
  rw [f_X12_twinsIn] at h
  refine SF_iconst (0 : Int32) 1 dX12_twinsIn_0 rfl rfl ?_
  refine SF_istore_n [(3, .int (0 : Int32)), (0, .ref (ad X l0)), (1, .int l1), (2, .int l2)] 2 dX12_twinsIn_1 rfl (by decide) rfl rfl ?_
  refine SF_iconst (0 : Int32) 3 dX12_twinsIn_2 rfl rfl ?_
  refine SF_istore [(4, .int (0 : Int32)), (3, .int (0 : Int32)), (0, .ref (ad X l0)), (1, .int l1), (2, .int l2)] 5 dX12_twinsIn_3 (by decide) rfl rfl ?_
  refine SF_sub [2, 3, 4, 1, 0] rfl ?_
  exact w_X12_twinsIn_5 hd FU l0 l1 l2 (0 : Int32) (0 : Int32) g k_l0 h

set_option maxRecDepth 10000 in
theorem w_X12_isFree {X : CX} {d : Nat} (hd : 1 ≤ d) (l0 : Nat) (l1 : Int32) (l2 : Int32) (g g' : G) (rx : Bool) (k_l0 : KD g l0 12) (h : f_X12_isFree l0 l1 l2 g = some (rx, g')) : Sem X m_X12_isFree d [.ref (ad X l0), .int l1, .int l2] g (some (.int (b2i rx))) g' := by
  refine Sem_of (lo := [(0, .ref (ad X l0)), (1, .int l1), (2, .int l2)]) (by decide +kernel) rfl (Nat.le_of_ble_eq_true rfl) ?_
  rw [f_X12_isFree] at h
  refine SF_aload_n 0 1 dX12_isFree_0 rfl rfl rfl ?_
  obtain ⟨b1, r2, h⟩ := dr_some h
  refine SF_getR 4 fl_X12_13 dX12_isFree_1 k_l0.1 r2 rfl ?_
  refine SF_bipush (52 : Int32) 6 dX12_isFree_4 rfl rfl ?_
  refine SF_iload_n 2 7 dX12_isFree_6 rfl rfl rfl ?_
  refine SF_iadd 8 dX12_isFree_7 rfl ?_
  obtain ⟨k3, h⟩ := gdK_some h
  obtain ⟨i4, h⟩ := gdI_some h
  refine SF_iald 9 dX12_isFree_8 k3.1 i4 rfl ?_
  refine SF_ifne 25 12 dX12_isFree_9 rfl rfl (fun c5 => ?_) (fun c5 => ?_)
  · have h := ite_f c5 h
    refine SF_iconst (0 : Int32) 26 dX12_isFree_25 rfl rfl ?_
    exact RT_b rfl rfl dX12_isFree_26 h
  · have h := ite_t c5 h
    refine SF_aload_n 0 13 dX12_isFree_12 rfl rfl rfl ?_
    refine SF_iload_n 2 14 dX12_isFree_13 rfl rfl rfl ?_
    refine SF_iload_n 1 15 dX12_isFree_14 rfl rfl rfl ?_
    obtain ⟨v6, g7, q8, h⟩ := bd_some h
    have s9 := w_X12_twinsIn (X := X) (Nat.le_refl 0) l0 l2 l1 g g7 v6 k_l0 q8
    refine SF_callVi 18 mi_X12_twinsIn ml_X12_220 dX12_isFree_15 (Nat.le_trans (by decide) hd) s9 k_l0.1 rfl rfl (Nat.le_of_ble_eq_true rfl) rfl ?_
    have k_l0 := k_l0.ext s9.1
    have k3 := k3.ext s9.1
    refine SF_ifne 25 21 dX12_isFree_18 rfl rfl (fun c10 => ?_) (fun c10 => ?_)
    · have h := ite_f c10 h
      refine SF_iconst (0 : Int32) 26 dX12_isFree_25 rfl rfl ?_
      exact RT_b rfl rfl dX12_isFree_26 h
    · have h := ite_t c10 h
      refine SF_iconst (1 : Int32) 22 dX12_isFree_21 rfl rfl ?_
      refine SF_goto 26 dX12_isFree_22 rfl ?_
      exact RT_b rfl rfl dX12_isFree_26 h

set_option maxRecDepth 10000 in
theorem w_X12_cells {X : CX} {d : Nat} (hd : 0 ≤ d) (l0 : Nat) (g g' : G) (rx : Int32) (k_l0 : KD g l0 12) (h : f_X12_cells l0 g = some (rx, g')) : Sem X m_X12_cells d [.ref (ad X l0)] g (some (.int rx)) g' := by
  refine Sem_of (lo := [(0, .ref (ad X l0))]) (by decide +kernel) rfl (Nat.le_of_ble_eq_true rfl) ?_
  rw [f_X12_cells] at h
  refine SF_aload_n 0 1 dX12_cells_0 rfl rfl rfl ?_
  obtain ⟨b1, r2, h⟩ := dr_some h
  refine SF_getR 4 fl_X12_13 dX12_cells_1 k_l0.1 r2 rfl ?_
  refine SF_iconst (1 : Int32) 5 dX12_cells_4 rfl rfl ?_
  obtain ⟨k3, h⟩ := gdK_some h
  obtain ⟨i4, h⟩ := gdI_some h
  refine SF_iald 6 dX12_cells_5 k3.1 i4 rfl ?_
  refine SF_aload_n 0 7 dX12_cells_6 rfl rfl rfl ?_
  refine SF_getR 10 fl_X12_13 dX12_cells_7 k_l0.1 r2 rfl ?_
  refine SF_iconst (2 : Int32) 11 dX12_cells_10 rfl rfl ?_
  obtain ⟨i5, h⟩ := gdI_some h
  refine SF_iald 12 dX12_cells_11 k3.1 i5 rfl ?_
  refine SF_imul 13 dX12_cells_12 rfl ?_
  exact RT_i rfl dX12_cells_13 h

set_option maxRecDepth 10000 in
theorem w_X12_isCell {X : CX} {d : Nat} (hd : 1 ≤ d) (l0 : Nat) (l1 : Int64) (g g' : G) (rx : Bool) (k_l0 : KD g l0 12) (h : f_X12_isCell l0 l1 g = some (rx, g')) : Sem X m_X12_isCell d [.ref (ad X l0), .long l1] g (some (.int (b2i rx))) g' := by
  refine Sem_of (lo := [(0, .ref (ad X l0)), (1, .long l1)]) (by decide +kernel) rfl (Nat.le_of_ble_eq_true rfl) ?_
  rw [f_X12_isCell] at h
  refine SF_lload_n 1 1 dX12_isCell_0 rfl rfl rfl ?_
  refine SF_lconst (0 : Int64) 2 dX12_isCell_1 rfl rfl ?_
  refine SF_aload_n 0 3 dX12_isCell_2 rfl rfl rfl ?_
  obtain ⟨v1, g2, q3, h⟩ := bd_some h
  have s4 := w_X12_cells (X := X) (Nat.le_refl 0) l0 g g2 v1 k_l0 q3
  refine SF_callVi 6 mi_X12_cells ml_X12_214 dX12_isCell_3 (Nat.le_trans (by decide) hd) s4 k_l0.1 rfl rfl (Nat.le_of_ble_eq_true rfl) rfl ?_
  have k_l0 := k_l0.ext s4.1
  refine SF_iconst (1 : Int32) 7 dX12_isCell_6 rfl rfl ?_
  refine SF_isub 8 dX12_isCell_7 rfl ?_
  refine SF_i2l 9 dX12_isCell_8 rfl ?_
  obtain ⟨v5, g6, q7, h⟩ := bd_some h
  have s8 := w_X12_within (X := X) (Nat.le_refl 0) l1 (0 : Int64) ((v1 - (1 : Int32)).toInt64) g2 g6 v5 q7
  refine SF_callSb 12 mi_X12_within ml_X12_139 dX12_isCell_9 (Nat.le_trans (by decide) hd) s8 rfl rfl (Nat.le_of_ble_eq_true rfl) rfl ?_
  have k_l0 := k_l0.ext s8.1
  exact RT_b rfl rfl dX12_isCell_12 h

set_option maxRecDepth 10000 in
theorem w_X12_plain_29 {X : CX} {d : Nat} (hd : 0 ≤ d) {g' : G} {rx : Unit} : ∀ (n : Nat) (l0 : Nat) (l1 : Int32) (g : G), KD g l0 14 → f_X12_plain_29 n l0 l1 g = some (rx, g') → SemF X m_X12_plain d 29 [(0, .ref (ad X l0)), (1, .int l1)] [] g none g' := by
  intro n
  induction n with
  | zero =>
    intro l0 l1 g k_l0 h
    rw [f_X12_plain_29] at h
    cases h
  | succ n ih =>
  intro l0 l1 g k_l0 h
  rw [f_X12_plain_29] at h
  refine SF_iload_n 1 30 dX12_plain_29 rfl rfl rfl ?_
  refine SF_bipush (6 : Int32) 32 dX12_plain_30 rfl rfl ?_
  refine SF_icge 55 35 dX12_plain_32 rfl rfl (fun c1 => ?_) (fun c1 => ?_)
  · have h := ite_t c1 h
    exact RT_v rfl dX12_plain_55 h
  · have h := ite_f c1 h
    refine SF_aload_n 0 36 dX12_plain_35 rfl rfl rfl ?_
    refine SF_bipush (46 : Int32) 38 dX12_plain_36 rfl rfl ?_
    refine SF_iload_n 1 39 dX12_plain_38 rfl rfl rfl ?_
    refine SF_iadd 40 dX12_plain_39 rfl ?_
    refine SF_iconst (-1 : Int32) 41 dX12_plain_40 rfl rfl ?_
    obtain ⟨i2, h⟩ := gdI_some h
    refine SF_iast 42 dX12_plain_41 k_l0.1 i2 rfl ?_
    refine SF_aload_n 0 43 dX12_plain_42 rfl rfl rfl ?_
    refine SF_bipush (88 : Int32) 45 dX12_plain_43 rfl rfl ?_
    refine SF_iload_n 1 46 dX12_plain_45 rfl rfl rfl ?_
    refine SF_iadd 47 dX12_plain_46 rfl ?_
    refine SF_iconst (-1 : Int32) 48 dX12_plain_47 rfl rfl ?_
    obtain ⟨i3, h⟩ := gdI_some h
    refine SF_iast 49 dX12_plain_48 k_l0.1 i3 rfl ?_
    refine SF_iinc 1 (l1 + (1 : Int32)) [(1, .int (l1 + (1 : Int32))), (0, .ref (ad X l0))] 52 dX12_plain_49 rfl rfl (by decide) rfl rfl ?_
    refine SF_goto 29 dX12_plain_52 rfl ?_
    refine SF_sub [1, 0] rfl ?_
    exact ih l0 (l1 + (1 : Int32)) (sI (sI g l0 ((46 : Int32) + l1).toNatClampNeg (-1 : Int32)) l0 ((88 : Int32) + l1).toNatClampNeg (-1 : Int32)) k_l0 h

set_option maxRecDepth 10000 in
theorem w_X12_plain_2 {X : CX} {d : Nat} (hd : 0 ≤ d) {g' : G} {rx : Unit} : ∀ (n : Nat) (l0 : Nat) (l1 : Int32) (g : G), KD g l0 14 → f_X12_plain_2 n l0 l1 g = some (rx, g') → SemF X m_X12_plain d 2 [(0, .ref (ad X l0)), (1, .int l1)] [] g none g' := by
  intro n
  induction n with
  | zero =>
    intro l0 l1 g k_l0 h
    rw [f_X12_plain_2] at h
    cases h
  | succ n ih =>
  intro l0 l1 g k_l0 h
  rw [f_X12_plain_2] at h
  refine SF_iload_n 1 3 dX12_plain_2 rfl rfl rfl ?_
  refine SF_sipush (1515 : Int32) 6 dX12_plain_3 rfl rfl ?_
  refine SF_icge 19 9 dX12_plain_6 rfl rfl (fun c1 => ?_) (fun c1 => ?_)
  · have h := ite_t c1 h
    refine SF_aload_n 0 20 dX12_plain_19 rfl rfl rfl ?_
    refine SF_iconst (1 : Int32) 21 dX12_plain_20 rfl rfl ?_
    refine SF_iconst (1 : Int32) 22 dX12_plain_21 rfl rfl ?_
    obtain ⟨i2, h⟩ := gdI_some h
    refine SF_iast 23 dX12_plain_22 k_l0.1 i2 rfl ?_
    refine SF_aload_n 0 24 dX12_plain_23 rfl rfl rfl ?_
    refine SF_iconst (2 : Int32) 25 dX12_plain_24 rfl rfl ?_
    refine SF_iconst (1 : Int32) 26 dX12_plain_25 rfl rfl ?_
    obtain ⟨i3, h⟩ := gdI_some h
    refine SF_iast 27 dX12_plain_26 k_l0.1 i3 rfl ?_
    refine SF_iconst (0 : Int32) 28 dX12_plain_27 rfl rfl ?_
    refine SF_istore_n [(1, .int (0 : Int32)), (0, .ref (ad X l0))] 29 dX12_plain_28 rfl (by decide) rfl rfl ?_
    refine SF_sub [1, 0] rfl ?_
    exact w_X12_plain_29 hd FU l0 (0 : Int32) (sI (sI g l0 (1 : Int32).toNatClampNeg (1 : Int32)) l0 (2 : Int32).toNatClampNeg (1 : Int32)) k_l0 h
  · have h := ite_f c1 h
    refine SF_aload_n 0 10 dX12_plain_9 rfl rfl rfl ?_
    refine SF_iload_n 1 11 dX12_plain_10 rfl rfl rfl ?_
    refine SF_iconst (0 : Int32) 12 dX12_plain_11 rfl rfl ?_
    obtain ⟨i4, h⟩ := gdI_some h
    refine SF_iast 13 dX12_plain_12 k_l0.1 i4 rfl ?_
    refine SF_iinc 1 (l1 + (1 : Int32)) [(1, .int (l1 + (1 : Int32))), (0, .ref (ad X l0))] 16 dX12_plain_13 rfl rfl (by decide) rfl rfl ?_
    refine SF_goto 2 dX12_plain_16 rfl ?_
    refine SF_sub [1, 0] rfl ?_
    exact ih l0 (l1 + (1 : Int32)) (sI g l0 l1.toNatClampNeg (0 : Int32)) k_l0 h

set_option maxRecDepth 10000 in
theorem w_X12_plain {X : CX} {d : Nat} (hd : 0 ≤ d) (l0 : Nat) (g g' : G) (rx : Unit) (k_l0 : KD g l0 14) (h : f_X12_plain l0 g = some (rx, g')) : Sem X m_X12_plain d [.ref (ad X l0)] g none g' := by
  refine Sem_of (lo := [(0, .ref (ad X l0))]) (by decide +kernel) rfl (Nat.le_of_ble_eq_true rfl) ?_
  rw [f_X12_plain] at h
  refine SF_iconst (0 : Int32) 1 dX12_plain_0 rfl rfl ?_
  refine SF_istore_n [(1, .int (0 : Int32)), (0, .ref (ad X l0))] 2 dX12_plain_1 rfl (by decide) rfl rfl ?_
  refine SF_sub [1, 0] rfl ?_
  exact w_X12_plain_2 hd FU l0 (0 : Int32) g k_l0 h

set_option maxRecDepth 10000 in
theorem w_X12_feed_77 {X : CX} {d : Nat} (hd : 0 ≤ d) {g' : G} {rx : Int32} (k24 : Nat → Int32 → Int32 → Int32 → Int32 → Int32 → Int32 → G → Option (Int32 × G)) (hk24 : ∀ (l0 : Nat) (l1 : Int32) (l2 : Int32) (l3 : Int32) (l4 : Int32) (l5 : Int32) (l6 : Int32) (g : G), KD g l0 12 → k24 l0 l1 l2 l3 l4 l5 l6 g = some (rx, g') → SemF X m_X12_feed d 24 [(0, .ref (ad X l0)), (1, .int l1), (2, .int l2), (3, .int l3), (4, .int l4), (5, .int l5), (6, .int l6)] [] g (some (.int rx)) g') (l0 : Nat) (l1 : Int32) (l2 : Int32) (l3 : Int32) (l4 : Int32) (l5 : Int32) (l6 : Int32) (s0 : Int32) (g : G) (k_l0 : KD g l0 12) (h : f_X12_feed_77 k24 l0 l1 l2 l3 l4 l5 l6 s0 g = some (rx, g')) : SemF X m_X12_feed d 77 [(0, .ref (ad X l0)), (1, .int l1), (2, .int l2), (3, .int l3), (4, .int l4), (5, .int l5), (6, .int l6)] [.int s0] g (some (.int rx)) g' := by
  rw [f_X12_feed_77] at h
  refine SF_istore [(7, .int s0), (0, .ref (ad X l0)), (1, .int l1), (2, .int l2), (3, .int l3), (4, .int l4), (5, .int l5), (6, .int l6)] 79 dX12_feed_77 (by decide) rfl rfl ?_
  refine SF_aload_n 1 80 dX12_feed_79 rfl rfl rfl ?_
  obtain ⟨b1, r2, h⟩ := dr_some h
  refine SF_getR 83 fl_X12_21 dX12_feed_80 k_l0.1 r2 rfl ?_
  refine SF_aload_n 1 84 dX12_feed_83 rfl rfl rfl ?_
  refine SF_getI 87 fl_X12_77 dX12_feed_84 k_l0.1 rfl ?_
  refine SF_iload 0 89 dX12_feed_87 rfl rfl ?_
  refine SF_bipush (24 : Int32) 91 dX12_feed_89 rfl rfl ?_
  refine SF_bipush (8 : Int32) 93 dX12_feed_91 rfl rfl ?_
  refine SF_iload 7 95 dX12_feed_93 rfl rfl ?_
  refine SF_iconst (4 : Int32) 96 dX12_feed_95 rfl rfl ?_
  refine SF_irem 97 dX12_feed_96 (by decide) rfl ?_
  refine SF_imul 98 dX12_feed_97 rfl ?_
  refine SF_isub 99 dX12_feed_98 rfl ?_
  refine SF_ishr 100 dX12_feed_99 rfl ?_
  refine SF_sipush (255 : Int32) 103 dX12_feed_100 rfl rfl ?_
  refine SF_iand 104 dX12_feed_103 rfl ?_
  obtain ⟨k3, h⟩ := gdK_some h
  obtain ⟨i4, h⟩ := gdI_some h
  refine SF_iast 105 dX12_feed_104 k3.1 i4 rfl ?_
  refine SF_aload_n 1 106 dX12_feed_105 rfl rfl rfl ?_
  refine SF_dup 107 dX12_feed_106 rfl rfl ?_
  refine SF_getI 110 fl_X12_77 dX12_feed_107 k_l0.1 rfl ?_
  refine SF_iconst (1 : Int32) 111 dX12_feed_110 rfl rfl ?_
  refine SF_iadd 112 dX12_feed_111 rfl ?_
  refine SF_putI 115 fl_X12_77 dX12_feed_112 k_l0.1 (fn_int _) (Or.inl rfl) rfl ?_
  refine SF_iinc 7 (l6 + (1 : Int32)) [(6, .int (l6 + (1 : Int32))), (7, .int s0), (0, .ref (ad X l0)), (1, .int l1), (2, .int l2), (3, .int l3), (4, .int l4), (5, .int l5)] 118 dX12_feed_115 rfl rfl (by decide) rfl rfl ?_
  refine SF_goto 24 dX12_feed_118 rfl ?_
  refine SF_sub [2, 3, 4, 5, 6, 7, 0] rfl ?_
  exact hk24 l0 l1 l2 l3 l4 l5 (l6 + (1 : Int32)) (sI (sI g b1 (gI g l0 5).toNatClampNeg ((s0 >>> (((24 : Int32) - ((8 : Int32) * (l6 - l6 / (4 : Int32) * (4 : Int32)))) &&& 31)) &&& (255 : Int32))) l0 5 ((gI (sI g b1 (gI g l0 5).toNatClampNeg ((s0 >>> (((24 : Int32) - ((8 : Int32) * (l6 - l6 / (4 : Int32) * (4 : Int32)))) &&& 31)) &&& (255 : Int32))) l0 5) + (1 : Int32))) k_l0 h

set_option maxRecDepth 10000 in
theorem w_X12_feed_24 {X : CX} {d : Nat} (hd : 0 ≤ d) {g' : G} {rx : Int32} : ∀ (n : Nat) (l0 : Nat) (l1 : Int32) (l2 : Int32) (l3 : Int32) (l4 : Int32) (l5 : Int32) (l6 : Int32) (g : G), KD g l0 12 → f_X12_feed_24 n l0 l1 l2 l3 l4 l5 l6 g = some (rx, g') → SemF X m_X12_feed d 24 [(0, .ref (ad X l0)), (1, .int l1), (2, .int l2), (3, .int l3), (4, .int l4), (5, .int l5), (6, .int l6)] [] g (some (.int rx)) g' := by
  intro n
  induction n with
  | zero =>
    intro l0 l1 l2 l3 l4 l5 l6 g k_l0 h
    rw [f_X12_feed_24] at h
    cases h
  | succ n ih =>
  intro l0 l1 l2 l3 l4 l5 l6 g k_l0 h
  rw [f_X12_feed_24] at h
  refine SF_iload 6 26 dX12_feed_24 rfl rfl ?_
  refine SF_bipush (20 : Int32) 28 dX12_feed_26 rfl rfl ?_
  refine SF_icge 121 31 dX12_feed_28 rfl rfl (fun c1 => ?_) (fun c1 => ?_)
  · have h := ite_t c1 h
    refine SF_aload_n 0 122 dX12_feed_121 rfl rfl rfl ?_
    refine SF_getI 125 fl_X12_77 dX12_feed_122 k_l0.1 rfl ?_
    exact RT_i rfl dX12_feed_125 h
  · have h := ite_f c1 h
    refine SF_iload 6 33 dX12_feed_31 rfl rfl ?_
    refine SF_iconst (4 : Int32) 34 dX12_feed_33 rfl rfl ?_
    refine SF_icge 41 37 dX12_feed_34 rfl rfl (fun c2 => ?_) (fun c2 => ?_)
    · have h := ite_t c2 h
      refine SF_iload 6 43 dX12_feed_41 rfl rfl ?_
      refine SF_bipush (8 : Int32) 45 dX12_feed_43 rfl rfl ?_
      refine SF_icge 52 48 dX12_feed_45 rfl rfl (fun c3 => ?_) (fun c3 => ?_)
      · have h := ite_t c3 h
        refine SF_iload 6 54 dX12_feed_52 rfl rfl ?_
        refine SF_bipush (12 : Int32) 56 dX12_feed_54 rfl rfl ?_
        refine SF_icge 63 59 dX12_feed_56 rfl rfl (fun c4 => ?_) (fun c4 => ?_)
        · have h := ite_t c4 h
          refine SF_iload 6 65 dX12_feed_63 rfl rfl ?_
          refine SF_bipush (16 : Int32) 67 dX12_feed_65 rfl rfl ?_
          refine SF_icge 75 70 dX12_feed_67 rfl rfl (fun c5 => ?_) (fun c5 => ?_)
          · have h := ite_t c5 h
            refine SF_iload 5 77 dX12_feed_75 rfl rfl ?_
            exact w_X12_feed_77 hd (f_X12_feed_24 n) ih l0 l1 l2 l3 l4 l5 l6 l5 g k_l0 h
          · have h := ite_f c5 h
            refine SF_iload 4 72 dX12_feed_70 rfl rfl ?_
            refine SF_goto 77 dX12_feed_72 rfl ?_
            exact w_X12_feed_77 hd (f_X12_feed_24 n) ih l0 l1 l2 l3 l4 l5 l6 l4 g k_l0 h
        · have h := ite_f c4 h
          refine SF_iload_n 3 60 dX12_feed_59 rfl rfl rfl ?_
          refine SF_goto 77 dX12_feed_60 rfl ?_
          exact w_X12_feed_77 hd (f_X12_feed_24 n) ih l0 l1 l2 l3 l4 l5 l6 l3 g k_l0 h
      · have h := ite_f c3 h
        refine SF_iload_n 2 49 dX12_feed_48 rfl rfl rfl ?_
        refine SF_goto 77 dX12_feed_49 rfl ?_
        exact w_X12_feed_77 hd (f_X12_feed_24 n) ih l0 l1 l2 l3 l4 l5 l6 l2 g k_l0 h
    · have h := ite_f c2 h
      refine SF_iload_n 1 38 dX12_feed_37 rfl rfl rfl ?_
      refine SF_goto 77 dX12_feed_38 rfl ?_
      exact w_X12_feed_77 hd (f_X12_feed_24 n) ih l0 l1 l2 l3 l4 l5 l6 l1 g k_l0 h

set_option maxRecDepth 10000 in
theorem w_X12_feed {X : CX} {d : Nat} (hd : 0 ≤ d) (l0 : Nat) (l1 : Int32) (l2 : Int32) (l3 : Int32) (l4 : Int32) (l5 : Int32) (g g' : G) (rx : Int32) (k_l0 : KD g l0 12) (h : f_X12_feed l0 l1 l2 l3 l4 l5 g = some (rx, g')) : Sem X m_X12_feed d [.ref (ad X l0), .int l1, .int l2, .int l3, .int l4, .int l5] g (some (.int rx)) g' := by
  refine Sem_of (lo := [(0, .ref (ad X l0)), (1, .int l1), (2, .int l2), (3, .int l3), (4, .int l4), (5, .int l5)]) (by decide +kernel) rfl (Nat.le_of_ble_eq_true rfl) ?_
  rw [f_X12_feed] at h
  refine SF_aload_n 0 1 dX12_feed_0 rfl rfl rfl ?_
  refine SF_iconst (0 : Int32) 2 dX12_feed_1 rfl rfl ?_
  refine SF_putI 5 fl_X12_1 dX12_feed_2 k_l0.1 (fn_int _) (Or.inl rfl) rfl ?_
  refine SF_aload_n 0 6 dX12_feed_5 rfl rfl rfl ?_
  refine SF_getI 9 fl_X12_77 dX12_feed_6 k_l0.1 rfl ?_
  refine SF_bipush (20 : Int32) 11 dX12_feed_9 rfl rfl ?_
  refine SF_iadd 12 dX12_feed_11 rfl ?_
  refine SF_sipush (900 : Int32) 15 dX12_feed_12 rfl rfl ?_
  refine SF_icle 21 18 dX12_feed_15 rfl rfl (fun c1 => ?_) (fun c1 => ?_)
  · have h := ite_t c1 h
    refine SF_iconst (0 : Int32) 22 dX12_feed_21 rfl rfl ?_
    refine SF_istore [(6, .int (0 : Int32)), (0, .ref (ad X l0)), (1, .int l1), (2, .int l2), (3, .int l3), (4, .int l4), (5, .int l5)] 24 dX12_feed_22 (by decide) rfl rfl ?_
    refine SF_sub [1, 2, 3, 4, 5, 6, 0] rfl ?_
    exact w_X12_feed_24 hd FU l0 l1 l2 l3 l4 l5 (0 : Int32) (sI g l0 0 (0 : Int32)) k_l0 h
  · have h := ite_f c1 h
    refine SF_bipush (-5 : Int32) 20 dX12_feed_18 rfl rfl ?_
    exact RT_i rfl dX12_feed_20 h

set_option maxRecDepth 10000 in
theorem w_X12_fails_23 {X : CX} {d : Nat} (hd : 0 ≤ d) {g' : G} {rx : Unit} (l0 : Nat) (s0 : Int32) (s1 : Nat) (g : G) (k_l0 : KD g l0 12) (k_s1 : KD g s1 12) (h : f_X12_fails_23 l0 s0 s1 g = some (rx, g')) : SemF X m_X12_fails d 23 [(0, .ref (ad X l0))] [.int s0, .ref (ad X s1)] g none g' := by
  rw [f_X12_fails_23] at h
  refine SF_putI 26 fl_X12_123 dX12_fails_23 k_s1.1 (fn_int _) (Or.inl rfl) rfl ?_
  refine SF_aload_n 0 27 dX12_fails_26 rfl rfl rfl ?_
  refine SF_aload_n 0 28 dX12_fails_27 rfl rfl rfl ?_
  refine SF_getI 31 fl_X12_95 dX12_fails_28 k_l0.1 rfl ?_
  refine SF_putI 34 fl_X12_126 dX12_fails_31 k_l0.1 (fn_int _) (Or.inl rfl) rfl ?_
  exact RT_v rfl dX12_fails_34 h

set_option maxRecDepth 10000 in
theorem w_X12_fails {X : CX} {d : Nat} (hd : 0 ≤ d) (l0 : Nat) (l1 : Int32) (g g' : G) (rx : Unit) (k_l0 : KD g l0 12) (h : f_X12_fails l0 l1 g = some (rx, g')) : Sem X m_X12_fails d [.ref (ad X l0), .int l1] g none g' := by
  refine Sem_of (lo := [(0, .ref (ad X l0)), (1, .int l1)]) (by decide +kernel) rfl (Nat.le_of_ble_eq_true rfl) ?_
  rw [f_X12_fails] at h
  refine SF_aload_n 0 1 dX12_fails_0 rfl rfl rfl ?_
  refine SF_getI 4 fl_X12_123 dX12_fails_1 k_l0.1 rfl ?_
  refine SF_ifeq 8 7 dX12_fails_4 rfl rfl (fun c1 => ?_) (fun c1 => ?_)
  · have h := ite_t c1 h
    refine SF_aload_n 0 9 dX12_fails_8 rfl rfl rfl ?_
    refine SF_aload_n 0 10 dX12_fails_9 rfl rfl rfl ?_
    refine SF_getI 13 fl_X12_105 dX12_fails_10 k_l0.1 rfl ?_
    refine SF_bipush (25 : Int32) 15 dX12_fails_13 rfl rfl ?_
    refine SF_icne 22 18 dX12_fails_15 rfl rfl (fun c2 => ?_) (fun c2 => ?_)
    · have h := ite_f c2 h
      refine SF_iload_n 1 23 dX12_fails_22 rfl rfl rfl ?_
      refine SF_sub [0] rfl ?_
      exact w_X12_fails_23 hd l0 l1 l0 g k_l0 k_l0 h
    · have h := ite_t c2 h
      refine SF_iconst (1 : Int32) 19 dX12_fails_18 rfl rfl ?_
      refine SF_goto 23 dX12_fails_19 rfl ?_
      refine SF_sub [0] rfl ?_
      exact w_X12_fails_23 hd l0 (1 : Int32) l0 g k_l0 k_l0 h
  · have h := ite_f c1 h
    exact RT_v rfl dX12_fails_7 h

set_option maxRecDepth 10000 in
theorem w_X12_heightOf {X : CX} {d : Nat} (hd : 0 ≤ d) (l0 : Nat) (l1 : Int32) (g g' : G) (rx : Int32) (k_l0 : KD g l0 12) (h : f_X12_heightOf l0 l1 g = some (rx, g')) : Sem X m_X12_heightOf d [.ref (ad X l0), .int l1] g (some (.int rx)) g' := by
  refine Sem_of (lo := [(0, .ref (ad X l0)), (1, .int l1)]) (by decide +kernel) rfl (Nat.le_of_ble_eq_true rfl) ?_
  rw [f_X12_heightOf] at h
  refine SF_aload_n 0 1 dX12_heightOf_0 rfl rfl rfl ?_
  obtain ⟨b1, r2, h⟩ := dr_some h
  refine SF_getR 4 fl_X12_13 dX12_heightOf_1 k_l0.1 r2 rfl ?_
  refine SF_bipush (52 : Int32) 6 dX12_heightOf_4 rfl rfl ?_
  refine SF_iload_n 1 7 dX12_heightOf_6 rfl rfl rfl ?_
  refine SF_iadd 8 dX12_heightOf_7 rfl ?_
  obtain ⟨k3, h⟩ := gdK_some h
  obtain ⟨i4, h⟩ := gdI_some h
  refine SF_iald 9 dX12_heightOf_8 k3.1 i4 rfl ?_
  refine SF_iconst (1 : Int32) 10 dX12_heightOf_9 rfl rfl ?_
  refine SF_icne 18 13 dX12_heightOf_10 rfl rfl (fun c5 => ?_) (fun c5 => ?_)
  · have h := ite_f c5 h
    refine SF_aload_n 0 19 dX12_heightOf_18 rfl rfl rfl ?_
    refine SF_getR 22 fl_X12_13 dX12_heightOf_19 k_l0.1 r2 rfl ?_
    refine SF_bipush (10 : Int32) 24 dX12_heightOf_22 rfl rfl ?_
    refine SF_iload_n 1 25 dX12_heightOf_24 rfl rfl rfl ?_
    refine SF_iadd 26 dX12_heightOf_25 rfl ?_
    obtain ⟨i6, h⟩ := gdI_some h
    refine SF_iald 27 dX12_heightOf_26 k3.1 i6 rfl ?_
    refine SF_bipush (9 : Int32) 29 dX12_heightOf_27 rfl rfl ?_
    refine SF_icne 36 32 dX12_heightOf_29 rfl rfl (fun c7 => ?_) (fun c7 => ?_)
    · have h := ite_f c7 h
      refine SF_aload_n 0 37 dX12_heightOf_36 rfl rfl rfl ?_
      refine SF_getR 40 fl_X12_13 dX12_heightOf_37 k_l0.1 r2 rfl ?_
      refine SF_bipush (10 : Int32) 42 dX12_heightOf_40 rfl rfl ?_
      refine SF_iload_n 1 43 dX12_heightOf_42 rfl rfl rfl ?_
      refine SF_iadd 44 dX12_heightOf_43 rfl ?_
      refine SF_iald 45 dX12_heightOf_44 k3.1 i6 rfl ?_
      exact RT_i rfl dX12_heightOf_45 h
    · have h := ite_t c7 h
      refine SF_iconst (0 : Int32) 33 dX12_heightOf_32 rfl rfl ?_
      refine SF_goto 45 dX12_heightOf_33 rfl ?_
      exact RT_i rfl dX12_heightOf_45 h
  · have h := ite_t c5 h
    refine SF_bipush (9 : Int32) 15 dX12_heightOf_13 rfl rfl ?_
    refine SF_goto 45 dX12_heightOf_15 rfl ?_
    exact RT_i rfl dX12_heightOf_45 h

