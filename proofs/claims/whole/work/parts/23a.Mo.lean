/-! Own rows, by program: Mo_thrown Mo_good Mo_no Mo_isNot Mo_in Mo_hasBit Mo_ones Mo_copy Mo_lowest Mo_feed Mo_see Mo_isSmall Mo_isDigit Mo_next Mo_wrong Mo_isWord Mo_takesWord Mo_must Mo_mustName Mo_find Mo_newName Mo_follyHere Mo_pass -/
theorem d_Mo_thrown_0 : decode M_Mo_thrown.2.1 0 = .ok (.aload_n 0, 1) := by decide +kernel
theorem d_Mo_thrown_1 : decode M_Mo_thrown.2.1 1 = .ok (.getfield 53, 3) := by decide +kernel
theorem d_Mo_thrown_4 : decode M_Mo_thrown.2.1 4 = .ok (.ireturn, 1) := by decide +kernel
theorem d_Mo_good_0 : decode M_Mo_good.2.1 0 = .ok (.aload_n 0, 1) := by decide +kernel
theorem d_Mo_good_1 : decode M_Mo_good.2.1 1 = .ok (.iconst 0, 1) := by decide +kernel
theorem d_Mo_good_2 : decode M_Mo_good.2.1 2 = .ok (.putfield 53, 3) := by decide +kernel
theorem d_Mo_good_5 : decode M_Mo_good.2.1 5 = .ok (.aload_n 0, 1) := by decide +kernel
theorem d_Mo_good_6 : decode M_Mo_good.2.1 6 = .ok (.iconst 0, 1) := by decide +kernel
theorem d_Mo_good_7 : decode M_Mo_good.2.1 7 = .ok (.putfield 56, 3) := by decide +kernel
theorem d_Mo_good_10 : decode M_Mo_good.2.1 10 = .ok (.return_, 1) := by decide +kernel
theorem d_Mo_no_0 : decode M_Mo_no.2.1 0 = .ok (.aload_n 0, 1) := by decide +kernel
theorem d_Mo_no_1 : decode M_Mo_no.2.1 1 = .ok (.iload_n 1, 1) := by decide +kernel
theorem d_Mo_no_2 : decode M_Mo_no.2.1 2 = .ok (.putfield 56, 3) := by decide +kernel
theorem d_Mo_no_5 : decode M_Mo_no.2.1 5 = .ok (.iconst (-1), 1) := by decide +kernel
theorem d_Mo_no_6 : decode M_Mo_no.2.1 6 = .ok (.ireturn, 1) := by decide +kernel
theorem d_Mo_isNot_0 : decode M_Mo_isNot.2.1 0 = .ok (.aload_n 0, 1) := by decide +kernel
theorem d_Mo_isNot_1 : decode M_Mo_isNot.2.1 1 = .ok (.iload_n 1, 1) := by decide +kernel
theorem d_Mo_isNot_2 : decode M_Mo_isNot.2.1 2 = .ok (.putfield 56, 3) := by decide +kernel
theorem d_Mo_isNot_5 : decode M_Mo_isNot.2.1 5 = .ok (.iconst 0, 1) := by decide +kernel
theorem d_Mo_isNot_6 : decode M_Mo_isNot.2.1 6 = .ok (.ireturn, 1) := by decide +kernel
theorem d_Mo_in_0 : decode M_Mo_in.2.1 0 = .ok (.iload_n 0, 1) := by decide +kernel
theorem d_Mo_in_1 : decode M_Mo_in.2.1 1 = .ok (.iload_n 1, 1) := by decide +kernel
theorem d_Mo_in_2 : decode M_Mo_in.2.1 2 = .ok (.if_icmp .lt 12, 3) := by decide +kernel
theorem d_Mo_in_5 : decode M_Mo_in.2.1 5 = .ok (.iload_n 0, 1) := by decide +kernel
theorem d_Mo_in_6 : decode M_Mo_in.2.1 6 = .ok (.iload_n 2, 1) := by decide +kernel
theorem d_Mo_in_7 : decode M_Mo_in.2.1 7 = .ok (.if_icmp .gt 7, 3) := by decide +kernel
theorem d_Mo_in_10 : decode M_Mo_in.2.1 10 = .ok (.iconst 1, 1) := by decide +kernel
theorem d_Mo_in_11 : decode M_Mo_in.2.1 11 = .ok (.goto 4, 3) := by decide +kernel
theorem d_Mo_in_14 : decode M_Mo_in.2.1 14 = .ok (.iconst 0, 1) := by decide +kernel
theorem d_Mo_in_15 : decode M_Mo_in.2.1 15 = .ok (.ireturn, 1) := by decide +kernel
theorem d_Mo_hasBit_0 : decode M_Mo_hasBit.2.1 0 = .ok (.iload_n 0, 1) := by decide +kernel
theorem d_Mo_hasBit_1 : decode M_Mo_hasBit.2.1 1 = .ok (.iload_n 1, 1) := by decide +kernel
theorem d_Mo_hasBit_2 : decode M_Mo_hasBit.2.1 2 = .ok (.ishr, 1) := by decide +kernel
theorem d_Mo_hasBit_3 : decode M_Mo_hasBit.2.1 3 = .ok (.iconst 1, 1) := by decide +kernel
theorem d_Mo_hasBit_4 : decode M_Mo_hasBit.2.1 4 = .ok (.iand, 1) := by decide +kernel
theorem d_Mo_hasBit_5 : decode M_Mo_hasBit.2.1 5 = .ok (.iconst 1, 1) := by decide +kernel
theorem d_Mo_hasBit_6 : decode M_Mo_hasBit.2.1 6 = .ok (.if_icmp .ne 7, 3) := by decide +kernel
theorem d_Mo_hasBit_9 : decode M_Mo_hasBit.2.1 9 = .ok (.iconst 1, 1) := by decide +kernel
theorem d_Mo_hasBit_10 : decode M_Mo_hasBit.2.1 10 = .ok (.goto 4, 3) := by decide +kernel
theorem d_Mo_hasBit_13 : decode M_Mo_hasBit.2.1 13 = .ok (.iconst 0, 1) := by decide +kernel
theorem d_Mo_hasBit_14 : decode M_Mo_hasBit.2.1 14 = .ok (.ireturn, 1) := by decide +kernel
theorem d_Mo_ones_0 : decode M_Mo_ones.2.1 0 = .ok (.iconst 0, 1) := by decide +kernel
theorem d_Mo_ones_1 : decode M_Mo_ones.2.1 1 = .ok (.istore_n 1, 1) := by decide +kernel
theorem d_Mo_ones_2 : decode M_Mo_ones.2.1 2 = .ok (.iconst 0, 1) := by decide +kernel
theorem d_Mo_ones_3 : decode M_Mo_ones.2.1 3 = .ok (.istore_n 2, 1) := by decide +kernel
theorem d_Mo_ones_4 : decode M_Mo_ones.2.1 4 = .ok (.iload_n 2, 1) := by decide +kernel
theorem d_Mo_ones_5 : decode M_Mo_ones.2.1 5 = .ok (.bipush 12, 2) := by decide +kernel
theorem d_Mo_ones_7 : decode M_Mo_ones.2.1 7 = .ok (.if_icmp .ge 17, 3) := by decide +kernel
theorem d_Mo_ones_10 : decode M_Mo_ones.2.1 10 = .ok (.iload_n 1, 1) := by decide +kernel
theorem d_Mo_ones_11 : decode M_Mo_ones.2.1 11 = .ok (.iload_n 0, 1) := by decide +kernel
theorem d_Mo_ones_12 : decode M_Mo_ones.2.1 12 = .ok (.iload_n 2, 1) := by decide +kernel
theorem d_Mo_ones_13 : decode M_Mo_ones.2.1 13 = .ok (.ishr, 1) := by decide +kernel
theorem d_Mo_ones_14 : decode M_Mo_ones.2.1 14 = .ok (.iconst 1, 1) := by decide +kernel
theorem d_Mo_ones_15 : decode M_Mo_ones.2.1 15 = .ok (.iand, 1) := by decide +kernel
theorem d_Mo_ones_16 : decode M_Mo_ones.2.1 16 = .ok (.iadd, 1) := by decide +kernel
theorem d_Mo_ones_17 : decode M_Mo_ones.2.1 17 = .ok (.istore_n 1, 1) := by decide +kernel
theorem d_Mo_ones_18 : decode M_Mo_ones.2.1 18 = .ok (.iinc 2 1, 3) := by decide +kernel
theorem d_Mo_ones_21 : decode M_Mo_ones.2.1 21 = .ok (.goto (-17), 3) := by decide +kernel
theorem d_Mo_ones_24 : decode M_Mo_ones.2.1 24 = .ok (.iload_n 1, 1) := by decide +kernel
theorem d_Mo_ones_25 : decode M_Mo_ones.2.1 25 = .ok (.ireturn, 1) := by decide +kernel
theorem d_Mo_copy_0 : decode M_Mo_copy.2.1 0 = .ok (.iconst 0, 1) := by decide +kernel
theorem d_Mo_copy_1 : decode M_Mo_copy.2.1 1 = .ok (.istore 5, 2) := by decide +kernel
theorem d_Mo_copy_3 : decode M_Mo_copy.2.1 3 = .ok (.iload 5, 2) := by decide +kernel
theorem d_Mo_copy_5 : decode M_Mo_copy.2.1 5 = .ok (.iload 4, 2) := by decide +kernel
theorem d_Mo_copy_7 : decode M_Mo_copy.2.1 7 = .ok (.if_icmp .ge 21, 3) := by decide +kernel
theorem d_Mo_copy_10 : decode M_Mo_copy.2.1 10 = .ok (.aload_n 2, 1) := by decide +kernel
theorem d_Mo_copy_11 : decode M_Mo_copy.2.1 11 = .ok (.iload_n 3, 1) := by decide +kernel
theorem d_Mo_copy_12 : decode M_Mo_copy.2.1 12 = .ok (.iload 5, 2) := by decide +kernel
theorem d_Mo_copy_14 : decode M_Mo_copy.2.1 14 = .ok (.iadd, 1) := by decide +kernel
theorem d_Mo_copy_15 : decode M_Mo_copy.2.1 15 = .ok (.aload_n 0, 1) := by decide +kernel
theorem d_Mo_copy_16 : decode M_Mo_copy.2.1 16 = .ok (.iload_n 1, 1) := by decide +kernel
theorem d_Mo_copy_17 : decode M_Mo_copy.2.1 17 = .ok (.iload 5, 2) := by decide +kernel
theorem d_Mo_copy_19 : decode M_Mo_copy.2.1 19 = .ok (.iadd, 1) := by decide +kernel
theorem d_Mo_copy_20 : decode M_Mo_copy.2.1 20 = .ok (.iaload, 1) := by decide +kernel
theorem d_Mo_copy_21 : decode M_Mo_copy.2.1 21 = .ok (.iastore, 1) := by decide +kernel
theorem d_Mo_copy_22 : decode M_Mo_copy.2.1 22 = .ok (.iinc 5 1, 3) := by decide +kernel
theorem d_Mo_copy_25 : decode M_Mo_copy.2.1 25 = .ok (.goto (-22), 3) := by decide +kernel
theorem d_Mo_copy_28 : decode M_Mo_copy.2.1 28 = .ok (.return_, 1) := by decide +kernel
theorem d_Mo_lowest_0 : decode M_Mo_lowest.2.1 0 = .ok (.lload_n 2, 1) := by decide +kernel
theorem d_Mo_lowest_1 : decode M_Mo_lowest.2.1 1 = .ok (.lstore 5, 2) := by decide +kernel
theorem d_Mo_lowest_3 : decode M_Mo_lowest.2.1 3 = .ok (.lload_n 0, 1) := by decide +kernel
theorem d_Mo_lowest_4 : decode M_Mo_lowest.2.1 4 = .ok (.lstore 7, 2) := by decide +kernel
theorem d_Mo_lowest_6 : decode M_Mo_lowest.2.1 6 = .ok (.lload 7, 2) := by decide +kernel
theorem d_Mo_lowest_8 : decode M_Mo_lowest.2.1 8 = .ok (.lconst 0, 1) := by decide +kernel
theorem d_Mo_lowest_9 : decode M_Mo_lowest.2.1 9 = .ok (.lcmp, 1) := by decide +kernel
theorem d_Mo_lowest_10 : decode M_Mo_lowest.2.1 10 = .ok (.ifCond .eq 21, 3) := by decide +kernel
theorem d_Mo_lowest_13 : decode M_Mo_lowest.2.1 13 = .ok (.lload 5, 2) := by decide +kernel
theorem d_Mo_lowest_15 : decode M_Mo_lowest.2.1 15 = .ok (.lload 7, 2) := by decide +kernel
theorem d_Mo_lowest_17 : decode M_Mo_lowest.2.1 17 = .ok (.lrem, 1) := by decide +kernel
theorem d_Mo_lowest_18 : decode M_Mo_lowest.2.1 18 = .ok (.lstore 9, 2) := by decide +kernel
theorem d_Mo_lowest_20 : decode M_Mo_lowest.2.1 20 = .ok (.lload 7, 2) := by decide +kernel
theorem d_Mo_lowest_22 : decode M_Mo_lowest.2.1 22 = .ok (.lstore 5, 2) := by decide +kernel
theorem d_Mo_lowest_24 : decode M_Mo_lowest.2.1 24 = .ok (.lload 9, 2) := by decide +kernel
theorem d_Mo_lowest_26 : decode M_Mo_lowest.2.1 26 = .ok (.lstore 7, 2) := by decide +kernel
theorem d_Mo_lowest_28 : decode M_Mo_lowest.2.1 28 = .ok (.goto (-22), 3) := by decide +kernel
theorem d_Mo_lowest_31 : decode M_Mo_lowest.2.1 31 = .ok (.iload 4, 2) := by decide +kernel
theorem d_Mo_lowest_33 : decode M_Mo_lowest.2.1 33 = .ok (.ifCond .eq 7, 3) := by decide +kernel
theorem d_Mo_lowest_36 : decode M_Mo_lowest.2.1 36 = .ok (.lload_n 2, 1) := by decide +kernel
theorem d_Mo_lowest_37 : decode M_Mo_lowest.2.1 37 = .ok (.goto 4, 3) := by decide +kernel
theorem d_Mo_lowest_40 : decode M_Mo_lowest.2.1 40 = .ok (.lload_n 0, 1) := by decide +kernel
theorem d_Mo_lowest_41 : decode M_Mo_lowest.2.1 41 = .ok (.lload 5, 2) := by decide +kernel
theorem d_Mo_lowest_43 : decode M_Mo_lowest.2.1 43 = .ok (.ldiv, 1) := by decide +kernel
theorem d_Mo_lowest_44 : decode M_Mo_lowest.2.1 44 = .ok (.lreturn, 1) := by decide +kernel
theorem d_Mo_feed_0 : decode M_Mo_feed.2.1 0 = .ok (.aload_n 0, 1) := by decide +kernel
theorem d_Mo_feed_1 : decode M_Mo_feed.2.1 1 = .ok (.iconst 0, 1) := by decide +kernel
theorem d_Mo_feed_2 : decode M_Mo_feed.2.1 2 = .ok (.putfield 53, 3) := by decide +kernel
theorem d_Mo_feed_5 : decode M_Mo_feed.2.1 5 = .ok (.aload_n 0, 1) := by decide +kernel
theorem d_Mo_feed_6 : decode M_Mo_feed.2.1 6 = .ok (.getfield 59, 3) := by decide +kernel
theorem d_Mo_feed_9 : decode M_Mo_feed.2.1 9 = .ok (.bipush 20, 2) := by decide +kernel
theorem d_Mo_feed_11 : decode M_Mo_feed.2.1 11 = .ok (.iadd, 1) := by decide +kernel
theorem d_Mo_feed_12 : decode M_Mo_feed.2.1 12 = .ok (.sipush 900, 3) := by decide +kernel
theorem d_Mo_feed_15 : decode M_Mo_feed.2.1 15 = .ok (.if_icmp .le 5, 3) := by decide +kernel
theorem d_Mo_feed_18 : decode M_Mo_feed.2.1 18 = .ok (.iconst (-1), 1) := by decide +kernel
theorem d_Mo_feed_19 : decode M_Mo_feed.2.1 19 = .ok (.ireturn, 1) := by decide +kernel
theorem d_Mo_feed_20 : decode M_Mo_feed.2.1 20 = .ok (.iconst 0, 1) := by decide +kernel
theorem d_Mo_feed_21 : decode M_Mo_feed.2.1 21 = .ok (.istore 6, 2) := by decide +kernel
theorem d_Mo_feed_23 : decode M_Mo_feed.2.1 23 = .ok (.iload 6, 2) := by decide +kernel
theorem d_Mo_feed_25 : decode M_Mo_feed.2.1 25 = .ok (.bipush 20, 2) := by decide +kernel
theorem d_Mo_feed_27 : decode M_Mo_feed.2.1 27 = .ok (.if_icmp .ge 93, 3) := by decide +kernel
theorem d_Mo_feed_30 : decode M_Mo_feed.2.1 30 = .ok (.iload 6, 2) := by decide +kernel
theorem d_Mo_feed_32 : decode M_Mo_feed.2.1 32 = .ok (.iconst 4, 1) := by decide +kernel
theorem d_Mo_feed_33 : decode M_Mo_feed.2.1 33 = .ok (.if_icmp .ge 7, 3) := by decide +kernel
theorem d_Mo_feed_36 : decode M_Mo_feed.2.1 36 = .ok (.iload_n 1, 1) := by decide +kernel
theorem d_Mo_feed_37 : decode M_Mo_feed.2.1 37 = .ok (.goto 39, 3) := by decide +kernel
theorem d_Mo_feed_40 : decode M_Mo_feed.2.1 40 = .ok (.iload 6, 2) := by decide +kernel
theorem d_Mo_feed_42 : decode M_Mo_feed.2.1 42 = .ok (.bipush 8, 2) := by decide +kernel
theorem d_Mo_feed_44 : decode M_Mo_feed.2.1 44 = .ok (.if_icmp .ge 7, 3) := by decide +kernel
theorem d_Mo_feed_47 : decode M_Mo_feed.2.1 47 = .ok (.iload_n 2, 1) := by decide +kernel
theorem d_Mo_feed_48 : decode M_Mo_feed.2.1 48 = .ok (.goto 28, 3) := by decide +kernel
theorem d_Mo_feed_51 : decode M_Mo_feed.2.1 51 = .ok (.iload 6, 2) := by decide +kernel
theorem d_Mo_feed_53 : decode M_Mo_feed.2.1 53 = .ok (.bipush 12, 2) := by decide +kernel
theorem d_Mo_feed_55 : decode M_Mo_feed.2.1 55 = .ok (.if_icmp .ge 7, 3) := by decide +kernel
theorem d_Mo_feed_58 : decode M_Mo_feed.2.1 58 = .ok (.iload_n 3, 1) := by decide +kernel
theorem d_Mo_feed_59 : decode M_Mo_feed.2.1 59 = .ok (.goto 17, 3) := by decide +kernel
theorem d_Mo_feed_62 : decode M_Mo_feed.2.1 62 = .ok (.iload 6, 2) := by decide +kernel
theorem d_Mo_feed_64 : decode M_Mo_feed.2.1 64 = .ok (.bipush 16, 2) := by decide +kernel
theorem d_Mo_feed_66 : decode M_Mo_feed.2.1 66 = .ok (.if_icmp .ge 8, 3) := by decide +kernel
theorem d_Mo_feed_69 : decode M_Mo_feed.2.1 69 = .ok (.iload 4, 2) := by decide +kernel
theorem d_Mo_feed_71 : decode M_Mo_feed.2.1 71 = .ok (.goto 5, 3) := by decide +kernel
theorem d_Mo_feed_74 : decode M_Mo_feed.2.1 74 = .ok (.iload 5, 2) := by decide +kernel
theorem d_Mo_feed_76 : decode M_Mo_feed.2.1 76 = .ok (.istore 7, 2) := by decide +kernel
theorem d_Mo_feed_78 : decode M_Mo_feed.2.1 78 = .ok (.aload_n 0, 1) := by decide +kernel
theorem d_Mo_feed_79 : decode M_Mo_feed.2.1 79 = .ok (.getfield 7, 3) := by decide +kernel
theorem d_Mo_feed_82 : decode M_Mo_feed.2.1 82 = .ok (.aload_n 0, 1) := by decide +kernel
theorem d_Mo_feed_83 : decode M_Mo_feed.2.1 83 = .ok (.getfield 59, 3) := by decide +kernel
theorem d_Mo_feed_86 : decode M_Mo_feed.2.1 86 = .ok (.iload 7, 2) := by decide +kernel
theorem d_Mo_feed_88 : decode M_Mo_feed.2.1 88 = .ok (.bipush 24, 2) := by decide +kernel
theorem d_Mo_feed_90 : decode M_Mo_feed.2.1 90 = .ok (.bipush 8, 2) := by decide +kernel
theorem d_Mo_feed_92 : decode M_Mo_feed.2.1 92 = .ok (.iload 6, 2) := by decide +kernel
theorem d_Mo_feed_94 : decode M_Mo_feed.2.1 94 = .ok (.iconst 4, 1) := by decide +kernel
theorem d_Mo_feed_95 : decode M_Mo_feed.2.1 95 = .ok (.irem, 1) := by decide +kernel
theorem d_Mo_feed_96 : decode M_Mo_feed.2.1 96 = .ok (.imul, 1) := by decide +kernel
theorem d_Mo_feed_97 : decode M_Mo_feed.2.1 97 = .ok (.isub, 1) := by decide +kernel
theorem d_Mo_feed_98 : decode M_Mo_feed.2.1 98 = .ok (.ishr, 1) := by decide +kernel
theorem d_Mo_feed_99 : decode M_Mo_feed.2.1 99 = .ok (.sipush 255, 3) := by decide +kernel
theorem d_Mo_feed_102 : decode M_Mo_feed.2.1 102 = .ok (.iand, 1) := by decide +kernel
theorem d_Mo_feed_103 : decode M_Mo_feed.2.1 103 = .ok (.iastore, 1) := by decide +kernel
theorem d_Mo_feed_104 : decode M_Mo_feed.2.1 104 = .ok (.aload_n 0, 1) := by decide +kernel
theorem d_Mo_feed_105 : decode M_Mo_feed.2.1 105 = .ok (.dup, 1) := by decide +kernel
theorem d_Mo_feed_106 : decode M_Mo_feed.2.1 106 = .ok (.getfield 59, 3) := by decide +kernel
theorem d_Mo_feed_109 : decode M_Mo_feed.2.1 109 = .ok (.iconst 1, 1) := by decide +kernel
theorem d_Mo_feed_110 : decode M_Mo_feed.2.1 110 = .ok (.iadd, 1) := by decide +kernel
theorem d_Mo_feed_111 : decode M_Mo_feed.2.1 111 = .ok (.putfield 59, 3) := by decide +kernel
theorem d_Mo_feed_114 : decode M_Mo_feed.2.1 114 = .ok (.iinc 6 1, 3) := by decide +kernel
theorem d_Mo_feed_117 : decode M_Mo_feed.2.1 117 = .ok (.goto (-94), 3) := by decide +kernel
theorem d_Mo_feed_120 : decode M_Mo_feed.2.1 120 = .ok (.aload_n 0, 1) := by decide +kernel
theorem d_Mo_feed_121 : decode M_Mo_feed.2.1 121 = .ok (.getfield 59, 3) := by decide +kernel
theorem d_Mo_feed_124 : decode M_Mo_feed.2.1 124 = .ok (.ireturn, 1) := by decide +kernel
theorem d_Mo_see_0 : decode M_Mo_see.2.1 0 = .ok (.iload_n 1, 1) := by decide +kernel
theorem d_Mo_see_1 : decode M_Mo_see.2.1 1 = .ok (.aload_n 0, 1) := by decide +kernel
theorem d_Mo_see_2 : decode M_Mo_see.2.1 2 = .ok (.getfield 62, 3) := by decide +kernel
theorem d_Mo_see_5 : decode M_Mo_see.2.1 5 = .ok (.if_icmp .ge 12, 3) := by decide +kernel
theorem d_Mo_see_8 : decode M_Mo_see.2.1 8 = .ok (.aload_n 0, 1) := by decide +kernel
theorem d_Mo_see_9 : decode M_Mo_see.2.1 9 = .ok (.getfield 7, 3) := by decide +kernel
theorem d_Mo_see_12 : decode M_Mo_see.2.1 12 = .ok (.iload_n 1, 1) := by decide +kernel
theorem d_Mo_see_13 : decode M_Mo_see.2.1 13 = .ok (.iaload, 1) := by decide +kernel
theorem d_Mo_see_14 : decode M_Mo_see.2.1 14 = .ok (.goto 4, 3) := by decide +kernel
theorem d_Mo_see_17 : decode M_Mo_see.2.1 17 = .ok (.iconst (-1), 1) := by decide +kernel
theorem d_Mo_see_18 : decode M_Mo_see.2.1 18 = .ok (.ireturn, 1) := by decide +kernel
theorem d_Mo_isSmall_0 : decode M_Mo_isSmall.2.1 0 = .ok (.iload_n 0, 1) := by decide +kernel
theorem d_Mo_isSmall_1 : decode M_Mo_isSmall.2.1 1 = .ok (.bipush 97, 2) := by decide +kernel
theorem d_Mo_isSmall_3 : decode M_Mo_isSmall.2.1 3 = .ok (.if_icmp .lt 13, 3) := by decide +kernel
theorem d_Mo_isSmall_6 : decode M_Mo_isSmall.2.1 6 = .ok (.iload_n 0, 1) := by decide +kernel
theorem d_Mo_isSmall_7 : decode M_Mo_isSmall.2.1 7 = .ok (.bipush 122, 2) := by decide +kernel
theorem d_Mo_isSmall_9 : decode M_Mo_isSmall.2.1 9 = .ok (.if_icmp .gt 7, 3) := by decide +kernel
theorem d_Mo_isSmall_12 : decode M_Mo_isSmall.2.1 12 = .ok (.iconst 1, 1) := by decide +kernel
theorem d_Mo_isSmall_13 : decode M_Mo_isSmall.2.1 13 = .ok (.goto 4, 3) := by decide +kernel
theorem d_Mo_isSmall_16 : decode M_Mo_isSmall.2.1 16 = .ok (.iconst 0, 1) := by decide +kernel
theorem d_Mo_isSmall_17 : decode M_Mo_isSmall.2.1 17 = .ok (.ireturn, 1) := by decide +kernel
theorem d_Mo_isDigit_0 : decode M_Mo_isDigit.2.1 0 = .ok (.iload_n 0, 1) := by decide +kernel
theorem d_Mo_isDigit_1 : decode M_Mo_isDigit.2.1 1 = .ok (.bipush 48, 2) := by decide +kernel
theorem d_Mo_isDigit_3 : decode M_Mo_isDigit.2.1 3 = .ok (.if_icmp .lt 13, 3) := by decide +kernel
theorem d_Mo_isDigit_6 : decode M_Mo_isDigit.2.1 6 = .ok (.iload_n 0, 1) := by decide +kernel
theorem d_Mo_isDigit_7 : decode M_Mo_isDigit.2.1 7 = .ok (.bipush 57, 2) := by decide +kernel
theorem d_Mo_isDigit_9 : decode M_Mo_isDigit.2.1 9 = .ok (.if_icmp .gt 7, 3) := by decide +kernel
theorem d_Mo_isDigit_12 : decode M_Mo_isDigit.2.1 12 = .ok (.iconst 1, 1) := by decide +kernel
theorem d_Mo_isDigit_13 : decode M_Mo_isDigit.2.1 13 = .ok (.goto 4, 3) := by decide +kernel
theorem d_Mo_isDigit_16 : decode M_Mo_isDigit.2.1 16 = .ok (.iconst 0, 1) := by decide +kernel
theorem d_Mo_isDigit_17 : decode M_Mo_isDigit.2.1 17 = .ok (.ireturn, 1) := by decide +kernel
theorem d_Mo_next_0 : decode M_Mo_next.2.1 0 = .ok (.aload_n 0, 1) := by decide +kernel
theorem d_Mo_next_1 : decode M_Mo_next.2.1 1 = .ok (.getfield 65, 3) := by decide +kernel
theorem d_Mo_next_4 : decode M_Mo_next.2.1 4 = .ok (.istore_n 1, 1) := by decide +kernel
theorem d_Mo_next_5 : decode M_Mo_next.2.1 5 = .ok (.aload_n 0, 1) := by decide +kernel
theorem d_Mo_next_6 : decode M_Mo_next.2.1 6 = .ok (.iload_n 1, 1) := by decide +kernel
theorem d_Mo_next_7 : decode M_Mo_next.2.1 7 = .ok (.invokevirtual 68, 3) := by decide +kernel
theorem d_Mo_next_10 : decode M_Mo_next.2.1 10 = .ok (.bipush 32, 2) := by decide +kernel
theorem d_Mo_next_12 : decode M_Mo_next.2.1 12 = .ok (.if_icmp .ne 9, 3) := by decide +kernel
theorem d_Mo_next_15 : decode M_Mo_next.2.1 15 = .ok (.iinc 1 1, 3) := by decide +kernel
theorem d_Mo_next_18 : decode M_Mo_next.2.1 18 = .ok (.goto (-13), 3) := by decide +kernel
theorem d_Mo_next_21 : decode M_Mo_next.2.1 21 = .ok (.aload_n 0, 1) := by decide +kernel
theorem d_Mo_next_22 : decode M_Mo_next.2.1 22 = .ok (.iload_n 1, 1) := by decide +kernel
theorem d_Mo_next_23 : decode M_Mo_next.2.1 23 = .ok (.putfield 72, 3) := by decide +kernel
theorem d_Mo_next_26 : decode M_Mo_next.2.1 26 = .ok (.aload_n 0, 1) := by decide +kernel
theorem d_Mo_next_27 : decode M_Mo_next.2.1 27 = .ok (.iload_n 1, 1) := by decide +kernel
theorem d_Mo_next_28 : decode M_Mo_next.2.1 28 = .ok (.invokevirtual 68, 3) := by decide +kernel
theorem d_Mo_next_31 : decode M_Mo_next.2.1 31 = .ok (.istore_n 2, 1) := by decide +kernel
theorem d_Mo_next_32 : decode M_Mo_next.2.1 32 = .ok (.aload_n 0, 1) := by decide +kernel
theorem d_Mo_next_33 : decode M_Mo_next.2.1 33 = .ok (.iconst 0, 1) := by decide +kernel
theorem d_Mo_next_34 : decode M_Mo_next.2.1 34 = .ok (.putfield 75, 3) := by decide +kernel
theorem d_Mo_next_37 : decode M_Mo_next.2.1 37 = .ok (.aload_n 0, 1) := by decide +kernel
theorem d_Mo_next_38 : decode M_Mo_next.2.1 38 = .ok (.iconst 0, 1) := by decide +kernel
theorem d_Mo_next_39 : decode M_Mo_next.2.1 39 = .ok (.putfield 78, 3) := by decide +kernel
theorem d_Mo_next_42 : decode M_Mo_next.2.1 42 = .ok (.iload_n 2, 1) := by decide +kernel
theorem d_Mo_next_43 : decode M_Mo_next.2.1 43 = .ok (.iconst (-1), 1) := by decide +kernel
theorem d_Mo_next_44 : decode M_Mo_next.2.1 44 = .ok (.if_icmp .ne 16, 3) := by decide +kernel
theorem d_Mo_next_47 : decode M_Mo_next.2.1 47 = .ok (.aload_n 0, 1) := by decide +kernel
theorem d_Mo_next_48 : decode M_Mo_next.2.1 48 = .ok (.iconst 0, 1) := by decide +kernel
theorem d_Mo_next_49 : decode M_Mo_next.2.1 49 = .ok (.putfield 81, 3) := by decide +kernel
theorem d_Mo_next_52 : decode M_Mo_next.2.1 52 = .ok (.aload_n 0, 1) := by decide +kernel
theorem d_Mo_next_53 : decode M_Mo_next.2.1 53 = .ok (.iload_n 1, 1) := by decide +kernel
theorem d_Mo_next_54 : decode M_Mo_next.2.1 54 = .ok (.putfield 65, 3) := by decide +kernel
theorem d_Mo_next_57 : decode M_Mo_next.2.1 57 = .ok (.goto 184, 3) := by decide +kernel
theorem d_Mo_next_60 : decode M_Mo_next.2.1 60 = .ok (.iload_n 2, 1) := by decide +kernel
theorem d_Mo_next_61 : decode M_Mo_next.2.1 61 = .ok (.invokestatic 84, 3) := by decide +kernel
theorem d_Mo_next_64 : decode M_Mo_next.2.1 64 = .ok (.ifCond .eq 79, 3) := by decide +kernel
theorem d_Mo_next_67 : decode M_Mo_next.2.1 67 = .ok (.aload_n 0, 1) := by decide +kernel
theorem d_Mo_next_68 : decode M_Mo_next.2.1 68 = .ok (.iload_n 1, 1) := by decide +kernel
theorem d_Mo_next_69 : decode M_Mo_next.2.1 69 = .ok (.invokevirtual 68, 3) := by decide +kernel
theorem d_Mo_next_72 : decode M_Mo_next.2.1 72 = .ok (.invokestatic 84, 3) := by decide +kernel
theorem d_Mo_next_75 : decode M_Mo_next.2.1 75 = .ok (.ifCond .eq 42, 3) := by decide +kernel
theorem d_Mo_next_78 : decode M_Mo_next.2.1 78 = .ok (.aload_n 0, 1) := by decide +kernel
theorem d_Mo_next_79 : decode M_Mo_next.2.1 79 = .ok (.getfield 75, 3) := by decide +kernel
theorem d_Mo_next_82 : decode M_Mo_next.2.1 82 = .ok (.bipush 8, 2) := by decide +kernel
theorem d_Mo_next_84 : decode M_Mo_next.2.1 84 = .ok (.if_icmp .ge 17, 3) := by decide +kernel
theorem d_Mo_next_87 : decode M_Mo_next.2.1 87 = .ok (.aload_n 0, 1) := by decide +kernel
theorem d_Mo_next_88 : decode M_Mo_next.2.1 88 = .ok (.getfield 17, 3) := by decide +kernel
theorem d_Mo_next_91 : decode M_Mo_next.2.1 91 = .ok (.aload_n 0, 1) := by decide +kernel
theorem d_Mo_next_92 : decode M_Mo_next.2.1 92 = .ok (.getfield 75, 3) := by decide +kernel
theorem d_Mo_next_95 : decode M_Mo_next.2.1 95 = .ok (.aload_n 0, 1) := by decide +kernel
theorem d_Mo_next_96 : decode M_Mo_next.2.1 96 = .ok (.iload_n 1, 1) := by decide +kernel
theorem d_Mo_next_97 : decode M_Mo_next.2.1 97 = .ok (.invokevirtual 68, 3) := by decide +kernel
theorem d_Mo_next_100 : decode M_Mo_next.2.1 100 = .ok (.iastore, 1) := by decide +kernel
theorem d_Mo_next_101 : decode M_Mo_next.2.1 101 = .ok (.aload_n 0, 1) := by decide +kernel
theorem d_Mo_next_102 : decode M_Mo_next.2.1 102 = .ok (.dup, 1) := by decide +kernel
theorem d_Mo_next_103 : decode M_Mo_next.2.1 103 = .ok (.getfield 75, 3) := by decide +kernel
theorem d_Mo_next_106 : decode M_Mo_next.2.1 106 = .ok (.iconst 1, 1) := by decide +kernel
theorem d_Mo_next_107 : decode M_Mo_next.2.1 107 = .ok (.iadd, 1) := by decide +kernel
theorem d_Mo_next_108 : decode M_Mo_next.2.1 108 = .ok (.putfield 75, 3) := by decide +kernel
theorem d_Mo_next_111 : decode M_Mo_next.2.1 111 = .ok (.iinc 1 1, 3) := by decide +kernel
theorem d_Mo_next_114 : decode M_Mo_next.2.1 114 = .ok (.goto (-47), 3) := by decide +kernel
theorem d_Mo_next_117 : decode M_Mo_next.2.1 117 = .ok (.aload_n 0, 1) := by decide +kernel
theorem d_Mo_next_118 : decode M_Mo_next.2.1 118 = .ok (.iload_n 1, 1) := by decide +kernel
theorem d_Mo_next_119 : decode M_Mo_next.2.1 119 = .ok (.putfield 65, 3) := by decide +kernel
theorem d_Mo_next_122 : decode M_Mo_next.2.1 122 = .ok (.aload_n 0, 1) := by decide +kernel
theorem d_Mo_next_123 : decode M_Mo_next.2.1 123 = .ok (.aload_n 0, 1) := by decide +kernel
theorem d_Mo_next_124 : decode M_Mo_next.2.1 124 = .ok (.getfield 75, 3) := by decide +kernel
theorem d_Mo_next_127 : decode M_Mo_next.2.1 127 = .ok (.bipush 8, 2) := by decide +kernel
theorem d_Mo_next_129 : decode M_Mo_next.2.1 129 = .ok (.if_icmp .le 7, 3) := by decide +kernel
theorem d_Mo_next_132 : decode M_Mo_next.2.1 132 = .ok (.iconst 1, 1) := by decide +kernel
theorem d_Mo_next_133 : decode M_Mo_next.2.1 133 = .ok (.goto 4, 3) := by decide +kernel
theorem d_Mo_next_136 : decode M_Mo_next.2.1 136 = .ok (.iconst 2, 1) := by decide +kernel
theorem d_Mo_next_137 : decode M_Mo_next.2.1 137 = .ok (.putfield 81, 3) := by decide +kernel
theorem d_Mo_next_140 : decode M_Mo_next.2.1 140 = .ok (.goto 101, 3) := by decide +kernel
theorem d_Mo_next_143 : decode M_Mo_next.2.1 143 = .ok (.iload_n 2, 1) := by decide +kernel
theorem d_Mo_next_144 : decode M_Mo_next.2.1 144 = .ok (.invokestatic 88, 3) := by decide +kernel
theorem d_Mo_next_147 : decode M_Mo_next.2.1 147 = .ok (.ifCond .eq 72, 3) := by decide +kernel
theorem d_Mo_next_150 : decode M_Mo_next.2.1 150 = .ok (.iconst 0, 1) := by decide +kernel
theorem d_Mo_next_151 : decode M_Mo_next.2.1 151 = .ok (.istore_n 3, 1) := by decide +kernel
theorem d_Mo_next_152 : decode M_Mo_next.2.1 152 = .ok (.aload_n 0, 1) := by decide +kernel
theorem d_Mo_next_153 : decode M_Mo_next.2.1 153 = .ok (.iload_n 1, 1) := by decide +kernel
theorem d_Mo_next_154 : decode M_Mo_next.2.1 154 = .ok (.invokevirtual 68, 3) := by decide +kernel
theorem d_Mo_next_157 : decode M_Mo_next.2.1 157 = .ok (.invokestatic 88, 3) := by decide +kernel
theorem d_Mo_next_160 : decode M_Mo_next.2.1 160 = .ok (.ifCond .eq 37, 3) := by decide +kernel
theorem d_Mo_next_163 : decode M_Mo_next.2.1 163 = .ok (.iload_n 3, 1) := by decide +kernel
theorem d_Mo_next_164 : decode M_Mo_next.2.1 164 = .ok (.iconst 3, 1) := by decide +kernel
theorem d_Mo_next_165 : decode M_Mo_next.2.1 165 = .ok (.if_icmp .ge 23, 3) := by decide +kernel
theorem d_Mo_next_168 : decode M_Mo_next.2.1 168 = .ok (.aload_n 0, 1) := by decide +kernel
theorem d_Mo_next_169 : decode M_Mo_next.2.1 169 = .ok (.bipush 10, 2) := by decide +kernel
theorem d_Mo_next_171 : decode M_Mo_next.2.1 171 = .ok (.aload_n 0, 1) := by decide +kernel
theorem d_Mo_next_172 : decode M_Mo_next.2.1 172 = .ok (.getfield 78, 3) := by decide +kernel
theorem d_Mo_next_175 : decode M_Mo_next.2.1 175 = .ok (.imul, 1) := by decide +kernel
theorem d_Mo_next_176 : decode M_Mo_next.2.1 176 = .ok (.aload_n 0, 1) := by decide +kernel
theorem d_Mo_next_177 : decode M_Mo_next.2.1 177 = .ok (.iload_n 1, 1) := by decide +kernel
theorem d_Mo_next_178 : decode M_Mo_next.2.1 178 = .ok (.invokevirtual 68, 3) := by decide +kernel
theorem d_Mo_next_181 : decode M_Mo_next.2.1 181 = .ok (.iadd, 1) := by decide +kernel
theorem d_Mo_next_182 : decode M_Mo_next.2.1 182 = .ok (.bipush 48, 2) := by decide +kernel
theorem d_Mo_next_184 : decode M_Mo_next.2.1 184 = .ok (.isub, 1) := by decide +kernel
theorem d_Mo_next_185 : decode M_Mo_next.2.1 185 = .ok (.putfield 78, 3) := by decide +kernel
theorem d_Mo_next_188 : decode M_Mo_next.2.1 188 = .ok (.iinc 3 1, 3) := by decide +kernel
theorem d_Mo_next_191 : decode M_Mo_next.2.1 191 = .ok (.iinc 1 1, 3) := by decide +kernel
theorem d_Mo_next_194 : decode M_Mo_next.2.1 194 = .ok (.goto (-42), 3) := by decide +kernel
theorem d_Mo_next_197 : decode M_Mo_next.2.1 197 = .ok (.aload_n 0, 1) := by decide +kernel
theorem d_Mo_next_198 : decode M_Mo_next.2.1 198 = .ok (.iload_n 1, 1) := by decide +kernel
theorem d_Mo_next_199 : decode M_Mo_next.2.1 199 = .ok (.putfield 65, 3) := by decide +kernel
theorem d_Mo_next_202 : decode M_Mo_next.2.1 202 = .ok (.aload_n 0, 1) := by decide +kernel
theorem d_Mo_next_203 : decode M_Mo_next.2.1 203 = .ok (.iload_n 3, 1) := by decide +kernel
theorem d_Mo_next_204 : decode M_Mo_next.2.1 204 = .ok (.iconst 3, 1) := by decide +kernel
theorem d_Mo_next_205 : decode M_Mo_next.2.1 205 = .ok (.if_icmp .le 7, 3) := by decide +kernel
theorem d_Mo_next_208 : decode M_Mo_next.2.1 208 = .ok (.iconst 1, 1) := by decide +kernel
theorem d_Mo_next_209 : decode M_Mo_next.2.1 209 = .ok (.goto 4, 3) := by decide +kernel
theorem d_Mo_next_212 : decode M_Mo_next.2.1 212 = .ok (.iconst 3, 1) := by decide +kernel
theorem d_Mo_next_213 : decode M_Mo_next.2.1 213 = .ok (.putfield 81, 3) := by decide +kernel
theorem d_Mo_next_216 : decode M_Mo_next.2.1 216 = .ok (.goto 25, 3) := by decide +kernel
theorem d_Mo_next_219 : decode M_Mo_next.2.1 219 = .ok (.aload_n 0, 1) := by decide +kernel
theorem d_Mo_next_220 : decode M_Mo_next.2.1 220 = .ok (.iload_n 1, 1) := by decide +kernel
theorem d_Mo_next_221 : decode M_Mo_next.2.1 221 = .ok (.iconst 1, 1) := by decide +kernel
theorem d_Mo_next_222 : decode M_Mo_next.2.1 222 = .ok (.iadd, 1) := by decide +kernel
theorem d_Mo_next_223 : decode M_Mo_next.2.1 223 = .ok (.putfield 65, 3) := by decide +kernel
theorem d_Mo_next_226 : decode M_Mo_next.2.1 226 = .ok (.aload_n 0, 1) := by decide +kernel
theorem d_Mo_next_227 : decode M_Mo_next.2.1 227 = .ok (.iload_n 2, 1) := by decide +kernel
theorem d_Mo_next_228 : decode M_Mo_next.2.1 228 = .ok (.bipush 59, 2) := by decide +kernel
theorem d_Mo_next_230 : decode M_Mo_next.2.1 230 = .ok (.if_icmp .ne 7, 3) := by decide +kernel
theorem d_Mo_next_233 : decode M_Mo_next.2.1 233 = .ok (.iload_n 2, 1) := by decide +kernel
theorem d_Mo_next_234 : decode M_Mo_next.2.1 234 = .ok (.goto 4, 3) := by decide +kernel
theorem d_Mo_next_237 : decode M_Mo_next.2.1 237 = .ok (.iconst 1, 1) := by decide +kernel
theorem d_Mo_next_238 : decode M_Mo_next.2.1 238 = .ok (.putfield 81, 3) := by decide +kernel
theorem d_Mo_next_241 : decode M_Mo_next.2.1 241 = .ok (.return_, 1) := by decide +kernel
theorem d_Mo_wrong_0 : decode M_Mo_wrong.2.1 0 = .ok (.aload_n 0, 1) := by decide +kernel
theorem d_Mo_wrong_1 : decode M_Mo_wrong.2.1 1 = .ok (.getfield 91, 3) := by decide +kernel
theorem d_Mo_wrong_4 : decode M_Mo_wrong.2.1 4 = .ok (.ifCond .eq 4, 3) := by decide +kernel
theorem d_Mo_wrong_7 : decode M_Mo_wrong.2.1 7 = .ok (.return_, 1) := by decide +kernel
theorem d_Mo_wrong_8 : decode M_Mo_wrong.2.1 8 = .ok (.aload_n 0, 1) := by decide +kernel
theorem d_Mo_wrong_9 : decode M_Mo_wrong.2.1 9 = .ok (.iconst 1, 1) := by decide +kernel
theorem d_Mo_wrong_10 : decode M_Mo_wrong.2.1 10 = .ok (.putfield 91, 3) := by decide +kernel
theorem d_Mo_wrong_13 : decode M_Mo_wrong.2.1 13 = .ok (.aload_n 0, 1) := by decide +kernel
theorem d_Mo_wrong_14 : decode M_Mo_wrong.2.1 14 = .ok (.iload_n 1, 1) := by decide +kernel
theorem d_Mo_wrong_15 : decode M_Mo_wrong.2.1 15 = .ok (.putfield 95, 3) := by decide +kernel
theorem d_Mo_wrong_18 : decode M_Mo_wrong.2.1 18 = .ok (.aload_n 0, 1) := by decide +kernel
theorem d_Mo_wrong_19 : decode M_Mo_wrong.2.1 19 = .ok (.iload_n 2, 1) := by decide +kernel
theorem d_Mo_wrong_20 : decode M_Mo_wrong.2.1 20 = .ok (.putfield 13, 3) := by decide +kernel
theorem d_Mo_wrong_23 : decode M_Mo_wrong.2.1 23 = .ok (.return_, 1) := by decide +kernel
theorem d_Mo_isWord_0 : decode M_Mo_isWord.2.1 0 = .ok (.aload_n 0, 1) := by decide +kernel
theorem d_Mo_isWord_1 : decode M_Mo_isWord.2.1 1 = .ok (.getfield 91, 3) := by decide +kernel
theorem d_Mo_isWord_4 : decode M_Mo_isWord.2.1 4 = .ok (.ifCond .ne 22, 3) := by decide +kernel
theorem d_Mo_isWord_7 : decode M_Mo_isWord.2.1 7 = .ok (.aload_n 0, 1) := by decide +kernel
theorem d_Mo_isWord_8 : decode M_Mo_isWord.2.1 8 = .ok (.getfield 81, 3) := by decide +kernel
theorem d_Mo_isWord_11 : decode M_Mo_isWord.2.1 11 = .ok (.iconst 2, 1) := by decide +kernel
theorem d_Mo_isWord_12 : decode M_Mo_isWord.2.1 12 = .ok (.if_icmp .ne 14, 3) := by decide +kernel
theorem d_Mo_isWord_15 : decode M_Mo_isWord.2.1 15 = .ok (.aload_n 0, 1) := by decide +kernel
theorem d_Mo_isWord_16 : decode M_Mo_isWord.2.1 16 = .ok (.getfield 75, 3) := by decide +kernel
theorem d_Mo_isWord_19 : decode M_Mo_isWord.2.1 19 = .ok (.aload_n 1, 1) := by decide +kernel
theorem d_Mo_isWord_20 : decode M_Mo_isWord.2.1 20 = .ok (.invokevirtual 98, 3) := by decide +kernel
theorem d_Mo_isWord_23 : decode M_Mo_isWord.2.1 23 = .ok (.if_icmp .eq 5, 3) := by decide +kernel
theorem d_Mo_isWord_26 : decode M_Mo_isWord.2.1 26 = .ok (.iconst 0, 1) := by decide +kernel
theorem d_Mo_isWord_27 : decode M_Mo_isWord.2.1 27 = .ok (.ireturn, 1) := by decide +kernel
theorem d_Mo_isWord_28 : decode M_Mo_isWord.2.1 28 = .ok (.iconst 1, 1) := by decide +kernel
theorem d_Mo_isWord_29 : decode M_Mo_isWord.2.1 29 = .ok (.istore_n 2, 1) := by decide +kernel
theorem d_Mo_isWord_30 : decode M_Mo_isWord.2.1 30 = .ok (.iconst 0, 1) := by decide +kernel
theorem d_Mo_isWord_31 : decode M_Mo_isWord.2.1 31 = .ok (.istore_n 3, 1) := by decide +kernel
theorem d_Mo_isWord_32 : decode M_Mo_isWord.2.1 32 = .ok (.iload_n 3, 1) := by decide +kernel
theorem d_Mo_isWord_33 : decode M_Mo_isWord.2.1 33 = .ok (.aload_n 0, 1) := by decide +kernel
theorem d_Mo_isWord_34 : decode M_Mo_isWord.2.1 34 = .ok (.getfield 75, 3) := by decide +kernel
theorem d_Mo_isWord_37 : decode M_Mo_isWord.2.1 37 = .ok (.if_icmp .ge 33, 3) := by decide +kernel
theorem d_Mo_isWord_40 : decode M_Mo_isWord.2.1 40 = .ok (.iload_n 2, 1) := by decide +kernel
theorem d_Mo_isWord_41 : decode M_Mo_isWord.2.1 41 = .ok (.ifCond .eq 21, 3) := by decide +kernel
theorem d_Mo_isWord_44 : decode M_Mo_isWord.2.1 44 = .ok (.aload_n 0, 1) := by decide +kernel
theorem d_Mo_isWord_45 : decode M_Mo_isWord.2.1 45 = .ok (.getfield 17, 3) := by decide +kernel
theorem d_Mo_isWord_48 : decode M_Mo_isWord.2.1 48 = .ok (.iload_n 3, 1) := by decide +kernel
theorem d_Mo_isWord_49 : decode M_Mo_isWord.2.1 49 = .ok (.iaload, 1) := by decide +kernel
theorem d_Mo_isWord_50 : decode M_Mo_isWord.2.1 50 = .ok (.aload_n 1, 1) := by decide +kernel
theorem d_Mo_isWord_51 : decode M_Mo_isWord.2.1 51 = .ok (.iload_n 3, 1) := by decide +kernel
theorem d_Mo_isWord_52 : decode M_Mo_isWord.2.1 52 = .ok (.invokevirtual 104, 3) := by decide +kernel
theorem d_Mo_isWord_55 : decode M_Mo_isWord.2.1 55 = .ok (.if_icmp .ne 7, 3) := by decide +kernel
theorem d_Mo_isWord_58 : decode M_Mo_isWord.2.1 58 = .ok (.iconst 1, 1) := by decide +kernel
theorem d_Mo_isWord_59 : decode M_Mo_isWord.2.1 59 = .ok (.goto 4, 3) := by decide +kernel
theorem d_Mo_isWord_62 : decode M_Mo_isWord.2.1 62 = .ok (.iconst 0, 1) := by decide +kernel
theorem d_Mo_isWord_63 : decode M_Mo_isWord.2.1 63 = .ok (.istore_n 2, 1) := by decide +kernel
theorem d_Mo_isWord_64 : decode M_Mo_isWord.2.1 64 = .ok (.iinc 3 1, 3) := by decide +kernel
theorem d_Mo_isWord_67 : decode M_Mo_isWord.2.1 67 = .ok (.goto (-35), 3) := by decide +kernel
theorem d_Mo_isWord_70 : decode M_Mo_isWord.2.1 70 = .ok (.iload_n 2, 1) := by decide +kernel
theorem d_Mo_isWord_71 : decode M_Mo_isWord.2.1 71 = .ok (.ireturn, 1) := by decide +kernel
theorem d_Mo_takesWord_0 : decode M_Mo_takesWord.2.1 0 = .ok (.aload_n 0, 1) := by decide +kernel
theorem d_Mo_takesWord_1 : decode M_Mo_takesWord.2.1 1 = .ok (.aload_n 1, 1) := by decide +kernel
theorem d_Mo_takesWord_2 : decode M_Mo_takesWord.2.1 2 = .ok (.invokevirtual 108, 3) := by decide +kernel
theorem d_Mo_takesWord_5 : decode M_Mo_takesWord.2.1 5 = .ok (.ifCond .ne 5, 3) := by decide +kernel
theorem d_Mo_takesWord_8 : decode M_Mo_takesWord.2.1 8 = .ok (.iconst 0, 1) := by decide +kernel
theorem d_Mo_takesWord_9 : decode M_Mo_takesWord.2.1 9 = .ok (.ireturn, 1) := by decide +kernel
theorem d_Mo_takesWord_10 : decode M_Mo_takesWord.2.1 10 = .ok (.aload_n 0, 1) := by decide +kernel
theorem d_Mo_takesWord_11 : decode M_Mo_takesWord.2.1 11 = .ok (.invokevirtual 112, 3) := by decide +kernel
theorem d_Mo_takesWord_14 : decode M_Mo_takesWord.2.1 14 = .ok (.iconst 1, 1) := by decide +kernel
theorem d_Mo_takesWord_15 : decode M_Mo_takesWord.2.1 15 = .ok (.ireturn, 1) := by decide +kernel
theorem d_Mo_must_0 : decode M_Mo_must.2.1 0 = .ok (.aload_n 0, 1) := by decide +kernel
theorem d_Mo_must_1 : decode M_Mo_must.2.1 1 = .ok (.getfield 91, 3) := by decide +kernel
theorem d_Mo_must_4 : decode M_Mo_must.2.1 4 = .ok (.ifCond .ne 20, 3) := by decide +kernel
theorem d_Mo_must_7 : decode M_Mo_must.2.1 7 = .ok (.aload_n 0, 1) := by decide +kernel
theorem d_Mo_must_8 : decode M_Mo_must.2.1 8 = .ok (.aload_n 1, 1) := by decide +kernel
theorem d_Mo_must_9 : decode M_Mo_must.2.1 9 = .ok (.invokevirtual 115, 3) := by decide +kernel
theorem d_Mo_must_12 : decode M_Mo_must.2.1 12 = .ok (.ifCond .ne 12, 3) := by decide +kernel
theorem d_Mo_must_15 : decode M_Mo_must.2.1 15 = .ok (.aload_n 0, 1) := by decide +kernel
theorem d_Mo_must_16 : decode M_Mo_must.2.1 16 = .ok (.iconst 1, 1) := by decide +kernel
theorem d_Mo_must_17 : decode M_Mo_must.2.1 17 = .ok (.aload_n 0, 1) := by decide +kernel
theorem d_Mo_must_18 : decode M_Mo_must.2.1 18 = .ok (.getfield 72, 3) := by decide +kernel
theorem d_Mo_must_21 : decode M_Mo_must.2.1 21 = .ok (.invokevirtual 118, 3) := by decide +kernel
theorem d_Mo_must_24 : decode M_Mo_must.2.1 24 = .ok (.return_, 1) := by decide +kernel
theorem d_Mo_mustName_0 : decode M_Mo_mustName.2.1 0 = .ok (.aload_n 0, 1) := by decide +kernel
theorem d_Mo_mustName_1 : decode M_Mo_mustName.2.1 1 = .ok (.getfield 81, 3) := by decide +kernel
theorem d_Mo_mustName_4 : decode M_Mo_mustName.2.1 4 = .ok (.iconst 2, 1) := by decide +kernel
theorem d_Mo_mustName_5 : decode M_Mo_mustName.2.1 5 = .ok (.if_icmp .ne 66, 3) := by decide +kernel
theorem d_Mo_mustName_8 : decode M_Mo_mustName.2.1 8 = .ok (.aload_n 0, 1) := by decide +kernel
theorem d_Mo_mustName_9 : decode M_Mo_mustName.2.1 9 = .ok (.ldc 122, 2) := by decide +kernel
theorem d_Mo_mustName_11 : decode M_Mo_mustName.2.1 11 = .ok (.invokevirtual 108, 3) := by decide +kernel
theorem d_Mo_mustName_14 : decode M_Mo_mustName.2.1 14 = .ok (.ifCond .ne 57, 3) := by decide +kernel
theorem d_Mo_mustName_17 : decode M_Mo_mustName.2.1 17 = .ok (.aload_n 0, 1) := by decide +kernel
theorem d_Mo_mustName_18 : decode M_Mo_mustName.2.1 18 = .ok (.ldc 124, 2) := by decide +kernel
theorem d_Mo_mustName_20 : decode M_Mo_mustName.2.1 20 = .ok (.invokevirtual 108, 3) := by decide +kernel
theorem d_Mo_mustName_23 : decode M_Mo_mustName.2.1 23 = .ok (.ifCond .ne 48, 3) := by decide +kernel
theorem d_Mo_mustName_26 : decode M_Mo_mustName.2.1 26 = .ok (.aload_n 0, 1) := by decide +kernel
theorem d_Mo_mustName_27 : decode M_Mo_mustName.2.1 27 = .ok (.ldc 126, 2) := by decide +kernel
theorem d_Mo_mustName_29 : decode M_Mo_mustName.2.1 29 = .ok (.invokevirtual 108, 3) := by decide +kernel
theorem d_Mo_mustName_32 : decode M_Mo_mustName.2.1 32 = .ok (.ifCond .ne 39, 3) := by decide +kernel
theorem d_Mo_mustName_35 : decode M_Mo_mustName.2.1 35 = .ok (.aload_n 0, 1) := by decide +kernel
theorem d_Mo_mustName_36 : decode M_Mo_mustName.2.1 36 = .ok (.ldc 128, 2) := by decide +kernel
theorem d_Mo_mustName_38 : decode M_Mo_mustName.2.1 38 = .ok (.invokevirtual 108, 3) := by decide +kernel
theorem d_Mo_mustName_41 : decode M_Mo_mustName.2.1 41 = .ok (.ifCond .ne 30, 3) := by decide +kernel
theorem d_Mo_mustName_44 : decode M_Mo_mustName.2.1 44 = .ok (.aload_n 0, 1) := by decide +kernel
theorem d_Mo_mustName_45 : decode M_Mo_mustName.2.1 45 = .ok (.ldc 130, 2) := by decide +kernel
theorem d_Mo_mustName_47 : decode M_Mo_mustName.2.1 47 = .ok (.invokevirtual 108, 3) := by decide +kernel
theorem d_Mo_mustName_50 : decode M_Mo_mustName.2.1 50 = .ok (.ifCond .ne 21, 3) := by decide +kernel
theorem d_Mo_mustName_53 : decode M_Mo_mustName.2.1 53 = .ok (.aload_n 0, 1) := by decide +kernel
theorem d_Mo_mustName_54 : decode M_Mo_mustName.2.1 54 = .ok (.ldc 132, 2) := by decide +kernel
theorem d_Mo_mustName_56 : decode M_Mo_mustName.2.1 56 = .ok (.invokevirtual 108, 3) := by decide +kernel
theorem d_Mo_mustName_59 : decode M_Mo_mustName.2.1 59 = .ok (.ifCond .ne 12, 3) := by decide +kernel
theorem d_Mo_mustName_62 : decode M_Mo_mustName.2.1 62 = .ok (.aload_n 0, 1) := by decide +kernel
theorem d_Mo_mustName_63 : decode M_Mo_mustName.2.1 63 = .ok (.ldc 134, 2) := by decide +kernel
theorem d_Mo_mustName_65 : decode M_Mo_mustName.2.1 65 = .ok (.invokevirtual 108, 3) := by decide +kernel
theorem d_Mo_mustName_68 : decode M_Mo_mustName.2.1 68 = .ok (.ifCond .eq 12, 3) := by decide +kernel
theorem d_Mo_mustName_71 : decode M_Mo_mustName.2.1 71 = .ok (.aload_n 0, 1) := by decide +kernel
theorem d_Mo_mustName_72 : decode M_Mo_mustName.2.1 72 = .ok (.iconst 1, 1) := by decide +kernel
theorem d_Mo_mustName_73 : decode M_Mo_mustName.2.1 73 = .ok (.aload_n 0, 1) := by decide +kernel
theorem d_Mo_mustName_74 : decode M_Mo_mustName.2.1 74 = .ok (.getfield 72, 3) := by decide +kernel
theorem d_Mo_mustName_77 : decode M_Mo_mustName.2.1 77 = .ok (.invokevirtual 118, 3) := by decide +kernel
theorem d_Mo_mustName_80 : decode M_Mo_mustName.2.1 80 = .ok (.return_, 1) := by decide +kernel
theorem d_Mo_find_0 : decode M_Mo_find.2.1 0 = .ok (.iconst 0, 1) := by decide +kernel
theorem d_Mo_find_1 : decode M_Mo_find.2.1 1 = .ok (.istore_n 1, 1) := by decide +kernel
theorem d_Mo_find_2 : decode M_Mo_find.2.1 2 = .ok (.iload_n 1, 1) := by decide +kernel
theorem d_Mo_find_3 : decode M_Mo_find.2.1 3 = .ok (.bipush 11, 2) := by decide +kernel
theorem d_Mo_find_5 : decode M_Mo_find.2.1 5 = .ok (.if_icmp .ge 98, 3) := by decide +kernel
theorem d_Mo_find_8 : decode M_Mo_find.2.1 8 = .ok (.aload_n 0, 1) := by decide +kernel
theorem d_Mo_find_9 : decode M_Mo_find.2.1 9 = .ok (.getfield 23, 3) := by decide +kernel
theorem d_Mo_find_12 : decode M_Mo_find.2.1 12 = .ok (.bipush 47, 2) := by decide +kernel
theorem d_Mo_find_14 : decode M_Mo_find.2.1 14 = .ok (.iload_n 1, 1) := by decide +kernel
theorem d_Mo_find_15 : decode M_Mo_find.2.1 15 = .ok (.iadd, 1) := by decide +kernel
theorem d_Mo_find_16 : decode M_Mo_find.2.1 16 = .ok (.iaload, 1) := by decide +kernel
theorem d_Mo_find_17 : decode M_Mo_find.2.1 17 = .ok (.ifCond .le 23, 3) := by decide +kernel
theorem d_Mo_find_20 : decode M_Mo_find.2.1 20 = .ok (.aload_n 0, 1) := by decide +kernel
theorem d_Mo_find_21 : decode M_Mo_find.2.1 21 = .ok (.getfield 23, 3) := by decide +kernel
theorem d_Mo_find_24 : decode M_Mo_find.2.1 24 = .ok (.bipush 47, 2) := by decide +kernel
theorem d_Mo_find_26 : decode M_Mo_find.2.1 26 = .ok (.iload_n 1, 1) := by decide +kernel
theorem d_Mo_find_27 : decode M_Mo_find.2.1 27 = .ok (.iadd, 1) := by decide +kernel
theorem d_Mo_find_28 : decode M_Mo_find.2.1 28 = .ok (.iaload, 1) := by decide +kernel
theorem d_Mo_find_29 : decode M_Mo_find.2.1 29 = .ok (.aload_n 0, 1) := by decide +kernel
theorem d_Mo_find_30 : decode M_Mo_find.2.1 30 = .ok (.getfield 75, 3) := by decide +kernel
theorem d_Mo_find_33 : decode M_Mo_find.2.1 33 = .ok (.if_icmp .ne 7, 3) := by decide +kernel
theorem d_Mo_find_36 : decode M_Mo_find.2.1 36 = .ok (.iconst 1, 1) := by decide +kernel
theorem d_Mo_find_37 : decode M_Mo_find.2.1 37 = .ok (.goto 4, 3) := by decide +kernel
theorem d_Mo_find_40 : decode M_Mo_find.2.1 40 = .ok (.iconst 0, 1) := by decide +kernel
theorem d_Mo_find_41 : decode M_Mo_find.2.1 41 = .ok (.istore_n 2, 1) := by decide +kernel
theorem d_Mo_find_42 : decode M_Mo_find.2.1 42 = .ok (.iconst 0, 1) := by decide +kernel
theorem d_Mo_find_43 : decode M_Mo_find.2.1 43 = .ok (.istore_n 3, 1) := by decide +kernel
theorem d_Mo_find_44 : decode M_Mo_find.2.1 44 = .ok (.iload_n 3, 1) := by decide +kernel
theorem d_Mo_find_45 : decode M_Mo_find.2.1 45 = .ok (.aload_n 0, 1) := by decide +kernel
theorem d_Mo_find_46 : decode M_Mo_find.2.1 46 = .ok (.getfield 75, 3) := by decide +kernel
theorem d_Mo_find_49 : decode M_Mo_find.2.1 49 = .ok (.if_icmp .ge 42, 3) := by decide +kernel
theorem d_Mo_find_52 : decode M_Mo_find.2.1 52 = .ok (.iload_n 2, 1) := by decide +kernel
theorem d_Mo_find_53 : decode M_Mo_find.2.1 53 = .ok (.ifCond .eq 38, 3) := by decide +kernel
theorem d_Mo_find_56 : decode M_Mo_find.2.1 56 = .ok (.aload_n 0, 1) := by decide +kernel
theorem d_Mo_find_57 : decode M_Mo_find.2.1 57 = .ok (.getfield 23, 3) := by decide +kernel
theorem d_Mo_find_60 : decode M_Mo_find.2.1 60 = .ok (.bipush 58, 2) := by decide +kernel
theorem d_Mo_find_62 : decode M_Mo_find.2.1 62 = .ok (.bipush 8, 2) := by decide +kernel
theorem d_Mo_find_64 : decode M_Mo_find.2.1 64 = .ok (.iload_n 1, 1) := by decide +kernel
theorem d_Mo_find_65 : decode M_Mo_find.2.1 65 = .ok (.imul, 1) := by decide +kernel
theorem d_Mo_find_66 : decode M_Mo_find.2.1 66 = .ok (.iadd, 1) := by decide +kernel
theorem d_Mo_find_67 : decode M_Mo_find.2.1 67 = .ok (.iload_n 3, 1) := by decide +kernel
theorem d_Mo_find_68 : decode M_Mo_find.2.1 68 = .ok (.iadd, 1) := by decide +kernel
theorem d_Mo_find_69 : decode M_Mo_find.2.1 69 = .ok (.iaload, 1) := by decide +kernel
theorem d_Mo_find_70 : decode M_Mo_find.2.1 70 = .ok (.aload_n 0, 1) := by decide +kernel
theorem d_Mo_find_71 : decode M_Mo_find.2.1 71 = .ok (.getfield 17, 3) := by decide +kernel
theorem d_Mo_find_74 : decode M_Mo_find.2.1 74 = .ok (.iload_n 3, 1) := by decide +kernel
theorem d_Mo_find_75 : decode M_Mo_find.2.1 75 = .ok (.iaload, 1) := by decide +kernel
theorem d_Mo_find_76 : decode M_Mo_find.2.1 76 = .ok (.if_icmp .ne 7, 3) := by decide +kernel
theorem d_Mo_find_79 : decode M_Mo_find.2.1 79 = .ok (.iconst 1, 1) := by decide +kernel
theorem d_Mo_find_80 : decode M_Mo_find.2.1 80 = .ok (.goto 4, 3) := by decide +kernel
theorem d_Mo_find_83 : decode M_Mo_find.2.1 83 = .ok (.iconst 0, 1) := by decide +kernel
theorem d_Mo_find_84 : decode M_Mo_find.2.1 84 = .ok (.istore_n 2, 1) := by decide +kernel
theorem d_Mo_find_85 : decode M_Mo_find.2.1 85 = .ok (.iinc 3 1, 3) := by decide +kernel
theorem d_Mo_find_88 : decode M_Mo_find.2.1 88 = .ok (.goto (-44), 3) := by decide +kernel
theorem d_Mo_find_91 : decode M_Mo_find.2.1 91 = .ok (.iload_n 2, 1) := by decide +kernel
theorem d_Mo_find_92 : decode M_Mo_find.2.1 92 = .ok (.ifCond .eq 5, 3) := by decide +kernel
theorem d_Mo_find_95 : decode M_Mo_find.2.1 95 = .ok (.iload_n 1, 1) := by decide +kernel
theorem d_Mo_find_96 : decode M_Mo_find.2.1 96 = .ok (.ireturn, 1) := by decide +kernel
theorem d_Mo_find_97 : decode M_Mo_find.2.1 97 = .ok (.iinc 1 1, 3) := by decide +kernel
theorem d_Mo_find_100 : decode M_Mo_find.2.1 100 = .ok (.goto (-98), 3) := by decide +kernel
theorem d_Mo_find_103 : decode M_Mo_find.2.1 103 = .ok (.iconst (-1), 1) := by decide +kernel
theorem d_Mo_find_104 : decode M_Mo_find.2.1 104 = .ok (.ireturn, 1) := by decide +kernel
theorem d_Mo_newName_0 : decode M_Mo_newName.2.1 0 = .ok (.aload_n 0, 1) := by decide +kernel
theorem d_Mo_newName_1 : decode M_Mo_newName.2.1 1 = .ok (.getfield 91, 3) := by decide +kernel
theorem d_Mo_newName_4 : decode M_Mo_newName.2.1 4 = .ok (.ifCond .eq 4, 3) := by decide +kernel
theorem d_Mo_newName_7 : decode M_Mo_newName.2.1 7 = .ok (.return_, 1) := by decide +kernel
theorem d_Mo_newName_8 : decode M_Mo_newName.2.1 8 = .ok (.aload_n 0, 1) := by decide +kernel
theorem d_Mo_newName_9 : decode M_Mo_newName.2.1 9 = .ok (.invokevirtual 136, 3) := by decide +kernel
theorem d_Mo_newName_12 : decode M_Mo_newName.2.1 12 = .ok (.aload_n 0, 1) := by decide +kernel
theorem d_Mo_newName_13 : decode M_Mo_newName.2.1 13 = .ok (.getfield 91, 3) := by decide +kernel
theorem d_Mo_newName_16 : decode M_Mo_newName.2.1 16 = .ok (.ifCond .ne 19, 3) := by decide +kernel
theorem d_Mo_newName_19 : decode M_Mo_newName.2.1 19 = .ok (.aload_n 0, 1) := by decide +kernel
theorem d_Mo_newName_20 : decode M_Mo_newName.2.1 20 = .ok (.invokevirtual 139, 3) := by decide +kernel
theorem d_Mo_newName_23 : decode M_Mo_newName.2.1 23 = .ok (.ifCond .lt 12, 3) := by decide +kernel
theorem d_Mo_newName_26 : decode M_Mo_newName.2.1 26 = .ok (.aload_n 0, 1) := by decide +kernel
theorem d_Mo_newName_27 : decode M_Mo_newName.2.1 27 = .ok (.iconst 3, 1) := by decide +kernel
theorem d_Mo_newName_28 : decode M_Mo_newName.2.1 28 = .ok (.aload_n 0, 1) := by decide +kernel
theorem d_Mo_newName_29 : decode M_Mo_newName.2.1 29 = .ok (.getfield 72, 3) := by decide +kernel
theorem d_Mo_newName_32 : decode M_Mo_newName.2.1 32 = .ok (.invokevirtual 118, 3) := by decide +kernel
theorem d_Mo_newName_35 : decode M_Mo_newName.2.1 35 = .ok (.aload_n 0, 1) := by decide +kernel
theorem d_Mo_newName_36 : decode M_Mo_newName.2.1 36 = .ok (.getfield 91, 3) := by decide +kernel
theorem d_Mo_newName_39 : decode M_Mo_newName.2.1 39 = .ok (.ifCond .eq 4, 3) := by decide +kernel
theorem d_Mo_newName_42 : decode M_Mo_newName.2.1 42 = .ok (.return_, 1) := by decide +kernel
theorem d_Mo_newName_43 : decode M_Mo_newName.2.1 43 = .ok (.iconst 0, 1) := by decide +kernel
theorem d_Mo_newName_44 : decode M_Mo_newName.2.1 44 = .ok (.istore_n 2, 1) := by decide +kernel
theorem d_Mo_newName_45 : decode M_Mo_newName.2.1 45 = .ok (.iload_n 2, 1) := by decide +kernel
theorem d_Mo_newName_46 : decode M_Mo_newName.2.1 46 = .ok (.aload_n 0, 1) := by decide +kernel
theorem d_Mo_newName_47 : decode M_Mo_newName.2.1 47 = .ok (.getfield 75, 3) := by decide +kernel
theorem d_Mo_newName_50 : decode M_Mo_newName.2.1 50 = .ok (.if_icmp .ge 29, 3) := by decide +kernel
theorem d_Mo_newName_53 : decode M_Mo_newName.2.1 53 = .ok (.aload_n 0, 1) := by decide +kernel
theorem d_Mo_newName_54 : decode M_Mo_newName.2.1 54 = .ok (.getfield 23, 3) := by decide +kernel
theorem d_Mo_newName_57 : decode M_Mo_newName.2.1 57 = .ok (.bipush 58, 2) := by decide +kernel
theorem d_Mo_newName_59 : decode M_Mo_newName.2.1 59 = .ok (.bipush 8, 2) := by decide +kernel
theorem d_Mo_newName_61 : decode M_Mo_newName.2.1 61 = .ok (.iload_n 1, 1) := by decide +kernel
theorem d_Mo_newName_62 : decode M_Mo_newName.2.1 62 = .ok (.imul, 1) := by decide +kernel
theorem d_Mo_newName_63 : decode M_Mo_newName.2.1 63 = .ok (.iadd, 1) := by decide +kernel
theorem d_Mo_newName_64 : decode M_Mo_newName.2.1 64 = .ok (.iload_n 2, 1) := by decide +kernel
theorem d_Mo_newName_65 : decode M_Mo_newName.2.1 65 = .ok (.iadd, 1) := by decide +kernel
theorem d_Mo_newName_66 : decode M_Mo_newName.2.1 66 = .ok (.aload_n 0, 1) := by decide +kernel
theorem d_Mo_newName_67 : decode M_Mo_newName.2.1 67 = .ok (.getfield 17, 3) := by decide +kernel
theorem d_Mo_newName_70 : decode M_Mo_newName.2.1 70 = .ok (.iload_n 2, 1) := by decide +kernel
theorem d_Mo_newName_71 : decode M_Mo_newName.2.1 71 = .ok (.iaload, 1) := by decide +kernel
theorem d_Mo_newName_72 : decode M_Mo_newName.2.1 72 = .ok (.iastore, 1) := by decide +kernel
theorem d_Mo_newName_73 : decode M_Mo_newName.2.1 73 = .ok (.iinc 2 1, 3) := by decide +kernel
theorem d_Mo_newName_76 : decode M_Mo_newName.2.1 76 = .ok (.goto (-31), 3) := by decide +kernel
theorem d_Mo_newName_79 : decode M_Mo_newName.2.1 79 = .ok (.aload_n 0, 1) := by decide +kernel
theorem d_Mo_newName_80 : decode M_Mo_newName.2.1 80 = .ok (.getfield 23, 3) := by decide +kernel
theorem d_Mo_newName_83 : decode M_Mo_newName.2.1 83 = .ok (.bipush 47, 2) := by decide +kernel
theorem d_Mo_newName_85 : decode M_Mo_newName.2.1 85 = .ok (.iload_n 1, 1) := by decide +kernel
theorem d_Mo_newName_86 : decode M_Mo_newName.2.1 86 = .ok (.iadd, 1) := by decide +kernel
theorem d_Mo_newName_87 : decode M_Mo_newName.2.1 87 = .ok (.aload_n 0, 1) := by decide +kernel
theorem d_Mo_newName_88 : decode M_Mo_newName.2.1 88 = .ok (.getfield 75, 3) := by decide +kernel
theorem d_Mo_newName_91 : decode M_Mo_newName.2.1 91 = .ok (.iastore, 1) := by decide +kernel
theorem d_Mo_newName_92 : decode M_Mo_newName.2.1 92 = .ok (.aload_n 0, 1) := by decide +kernel
theorem d_Mo_newName_93 : decode M_Mo_newName.2.1 93 = .ok (.invokevirtual 112, 3) := by decide +kernel
theorem d_Mo_newName_96 : decode M_Mo_newName.2.1 96 = .ok (.return_, 1) := by decide +kernel
theorem d_Mo_follyHere_0 : decode M_Mo_follyHere.2.1 0 = .ok (.aload_n 0, 1) := by decide +kernel
theorem d_Mo_follyHere_1 : decode M_Mo_follyHere.2.1 1 = .ok (.getfield 91, 3) := by decide +kernel
theorem d_Mo_follyHere_4 : decode M_Mo_follyHere.2.1 4 = .ok (.ifCond .eq 5, 3) := by decide +kernel
theorem d_Mo_follyHere_7 : decode M_Mo_follyHere.2.1 7 = .ok (.iconst 0, 1) := by decide +kernel
theorem d_Mo_follyHere_8 : decode M_Mo_follyHere.2.1 8 = .ok (.ireturn, 1) := by decide +kernel
theorem d_Mo_follyHere_9 : decode M_Mo_follyHere.2.1 9 = .ok (.aload_n 0, 1) := by decide +kernel
theorem d_Mo_follyHere_10 : decode M_Mo_follyHere.2.1 10 = .ok (.invokevirtual 136, 3) := by decide +kernel
theorem d_Mo_follyHere_13 : decode M_Mo_follyHere.2.1 13 = .ok (.aload_n 0, 1) := by decide +kernel
theorem d_Mo_follyHere_14 : decode M_Mo_follyHere.2.1 14 = .ok (.getfield 91, 3) := by decide +kernel
theorem d_Mo_follyHere_17 : decode M_Mo_follyHere.2.1 17 = .ok (.ifCond .eq 5, 3) := by decide +kernel
theorem d_Mo_follyHere_20 : decode M_Mo_follyHere.2.1 20 = .ok (.iconst 0, 1) := by decide +kernel
theorem d_Mo_follyHere_21 : decode M_Mo_follyHere.2.1 21 = .ok (.ireturn, 1) := by decide +kernel
theorem d_Mo_follyHere_22 : decode M_Mo_follyHere.2.1 22 = .ok (.aload_n 0, 1) := by decide +kernel
theorem d_Mo_follyHere_23 : decode M_Mo_follyHere.2.1 23 = .ok (.invokevirtual 139, 3) := by decide +kernel
theorem d_Mo_follyHere_26 : decode M_Mo_follyHere.2.1 26 = .ok (.istore_n 1, 1) := by decide +kernel
theorem d_Mo_follyHere_27 : decode M_Mo_follyHere.2.1 27 = .ok (.iload_n 1, 1) := by decide +kernel
theorem d_Mo_follyHere_28 : decode M_Mo_follyHere.2.1 28 = .ok (.iconst 0, 1) := by decide +kernel
theorem d_Mo_follyHere_29 : decode M_Mo_follyHere.2.1 29 = .ok (.iconst 5, 1) := by decide +kernel
theorem d_Mo_follyHere_30 : decode M_Mo_follyHere.2.1 30 = .ok (.invokestatic 142, 3) := by decide +kernel
theorem d_Mo_follyHere_33 : decode M_Mo_follyHere.2.1 33 = .ok (.ifCond .ne 12, 3) := by decide +kernel
theorem d_Mo_follyHere_36 : decode M_Mo_follyHere.2.1 36 = .ok (.aload_n 0, 1) := by decide +kernel
theorem d_Mo_follyHere_37 : decode M_Mo_follyHere.2.1 37 = .ok (.iconst 2, 1) := by decide +kernel
theorem d_Mo_follyHere_38 : decode M_Mo_follyHere.2.1 38 = .ok (.aload_n 0, 1) := by decide +kernel
theorem d_Mo_follyHere_39 : decode M_Mo_follyHere.2.1 39 = .ok (.getfield 72, 3) := by decide +kernel
theorem d_Mo_follyHere_42 : decode M_Mo_follyHere.2.1 42 = .ok (.invokevirtual 118, 3) := by decide +kernel
theorem d_Mo_follyHere_45 : decode M_Mo_follyHere.2.1 45 = .ok (.aload_n 0, 1) := by decide +kernel
theorem d_Mo_follyHere_46 : decode M_Mo_follyHere.2.1 46 = .ok (.getfield 91, 3) := by decide +kernel
theorem d_Mo_follyHere_49 : decode M_Mo_follyHere.2.1 49 = .ok (.ifCond .eq 7, 3) := by decide +kernel
theorem d_Mo_follyHere_52 : decode M_Mo_follyHere.2.1 52 = .ok (.iconst 0, 1) := by decide +kernel
theorem d_Mo_follyHere_53 : decode M_Mo_follyHere.2.1 53 = .ok (.goto 4, 3) := by decide +kernel
theorem d_Mo_follyHere_56 : decode M_Mo_follyHere.2.1 56 = .ok (.iload_n 1, 1) := by decide +kernel
theorem d_Mo_follyHere_57 : decode M_Mo_follyHere.2.1 57 = .ok (.ireturn, 1) := by decide +kernel
theorem d_Mo_pass_0 : decode M_Mo_pass.2.1 0 = .ok (.aload_n 0, 1) := by decide +kernel
theorem d_Mo_pass_1 : decode M_Mo_pass.2.1 1 = .ok (.getfield 91, 3) := by decide +kernel
theorem d_Mo_pass_4 : decode M_Mo_pass.2.1 4 = .ok (.ifCond .ne 7, 3) := by decide +kernel
theorem d_Mo_pass_7 : decode M_Mo_pass.2.1 7 = .ok (.aload_n 0, 1) := by decide +kernel
theorem d_Mo_pass_8 : decode M_Mo_pass.2.1 8 = .ok (.invokevirtual 112, 3) := by decide +kernel
theorem d_Mo_pass_11 : decode M_Mo_pass.2.1 11 = .ok (.return_, 1) := by decide +kernel
set_option maxRecDepth 4000 in
theorem t_Mo_thrown {d : Nat} {I : Nat → Nat → Int32} {J : Nat → Nat → Int64} {R : Nat → Nat → Option Nat} {Q : Option Value → ow_H → Prop}   (hR : ow_RF R) (T : Q (some (.int (I 70 0))) (85, I, J, R)) : ow_AM M_Mo_thrown (d + 1) [.ref 70] (85, I, J, R) Q := by
  refine ow_enter (by decide) (Nat.le_of_ble_eq_true rfl) ?_
  show ow_AW ow_Y0 (ow_Z Q) M_Mo_thrown (d + 1) 0 0 0 [(0, .ref 70)] [] (85, I, J, R) 0 0
  refine ow_aload_n 0 rfl d_Mo_thrown_0 ?_
  refine ow_gI 169 d_Mo_thrown_1 rfl rfl (by decide) rfl (Or.inl rfl) ?_
  exact ow_iret d_Mo_thrown_4 rfl T
set_option maxRecDepth 4000 in
theorem t_Mo_good {d : Nat} {I : Nat → Nat → Int32} {J : Nat → Nat → Int64} {R : Nat → Nat → Option Nat} {Q : Option Value → ow_H → Prop}   (hR : ow_RF R) (T : (∀ (I3 : Nat → Nat → Int32), I3 = ow_u I 70 0 0 → (∀ (I4 : Nat → Nat → Int32), I4 = ow_u I3 70 11 0 → Q none (85, I4, J, R)))) : ow_AM M_Mo_good (d + 1) [.ref 70] (85, I, J, R) Q := by
  refine ow_enter (by decide) (Nat.le_of_ble_eq_true rfl) ?_
  show ow_AW ow_Y0 (ow_Z Q) M_Mo_good (d + 1) 0 0 0 [(0, .ref 70)] [] (85, I, J, R) 0 0
  refine ow_aload_n 0 rfl d_Mo_good_0 ?_
  refine ow_iconst (v := 0) (by decide) d_Mo_good_1 ?_
  refine ow_pI 169 d_Mo_good_2 rfl rfl (by decide) rfl rfl rfl ?_
  obtain ⟨I3, eI3⟩ : ∃ uu, uu = ow_u I 70 0 0 := ⟨_, rfl⟩
  replace T := T I3 eI3
  rw [← eI3]
  refine ow_aload_n 0 rfl d_Mo_good_5 ?_
  refine ow_iconst (v := 0) (by decide) d_Mo_good_6 ?_
  refine ow_pI 180 d_Mo_good_7 rfl rfl (by decide) rfl rfl rfl ?_
  obtain ⟨I4, eI4⟩ : ∃ uu, uu = ow_u I3 70 11 0 := ⟨_, rfl⟩
  replace T := T I4 eI4
  rw [← eI4]
  exact ow_vret d_Mo_good_10 rfl T
set_option maxRecDepth 4000 in
theorem t_Mo_no {d : Nat} {I : Nat → Nat → Int32} {J : Nat → Nat → Int64} {R : Nat → Nat → Option Nat} {Q : Option Value → ow_H → Prop} {p1 : Int32}  (hR : ow_RF R) (T : (∀ (I2 : Nat → Nat → Int32), I2 = ow_u I 70 11 p1 → Q (some (.int (-1))) (85, I2, J, R))) : ow_AM M_Mo_no (d + 1) [.ref 70, .int p1] (85, I, J, R) Q := by
  refine ow_enter (by decide) (Nat.le_of_ble_eq_true rfl) ?_
  show ow_AW ow_Y0 (ow_Z Q) M_Mo_no (d + 1) 0 0 0 [(0, .ref 70), (1, .int p1)] [] (85, I, J, R) 0 0
  refine ow_aload_n 0 rfl d_Mo_no_0 ?_
  refine ow_iload_n 1 rfl d_Mo_no_1 ?_
  refine ow_pI 180 d_Mo_no_2 rfl rfl (by decide) rfl rfl rfl ?_
  obtain ⟨I2, eI2⟩ : ∃ uu, uu = ow_u I 70 11 p1 := ⟨_, rfl⟩
  replace T := T I2 eI2
  rw [← eI2]
  refine ow_iconst (v := (-1)) (by decide) d_Mo_no_5 ?_
  exact ow_iret d_Mo_no_6 rfl T
set_option maxRecDepth 4000 in
theorem t_Mo_isNot {d : Nat} {I : Nat → Nat → Int32} {J : Nat → Nat → Int64} {R : Nat → Nat → Option Nat} {Q : Option Value → ow_H → Prop} {p1 : Int32}  (hR : ow_RF R) (T : (∀ (I2 : Nat → Nat → Int32), I2 = ow_u I 70 11 p1 → Q (some (.int 0)) (85, I2, J, R))) : ow_AM M_Mo_isNot (d + 1) [.ref 70, .int p1] (85, I, J, R) Q := by
  refine ow_enter (by decide) (Nat.le_of_ble_eq_true rfl) ?_
  show ow_AW ow_Y0 (ow_Z Q) M_Mo_isNot (d + 1) 0 0 0 [(0, .ref 70), (1, .int p1)] [] (85, I, J, R) 0 0
  refine ow_aload_n 0 rfl d_Mo_isNot_0 ?_
  refine ow_iload_n 1 rfl d_Mo_isNot_1 ?_
  refine ow_pI 180 d_Mo_isNot_2 rfl rfl (by decide) rfl rfl rfl ?_
  obtain ⟨I2, eI2⟩ : ∃ uu, uu = ow_u I 70 11 p1 := ⟨_, rfl⟩
  replace T := T I2 eI2
  rw [← eI2]
  refine ow_iconst (v := 0) (by decide) d_Mo_isNot_5 ?_
  exact ow_zret d_Mo_isNot_6 rfl (by decide) T
set_option maxRecDepth 4000 in
theorem t_Mo_in {d : Nat} {I : Nat → Nat → Int32} {J : Nat → Nat → Int64} {R : Nat → Nat → Option Nat} {Q : Option Value → ow_H → Prop} {p1 : Int32} {p2 : Int32} {p3 : Int32}  (hR : ow_RF R) (T : ((p1 < p2 → Q (some (.int 0)) (85, I, J, R)) ∧ (¬ p1 < p2 → ((p3 < p1 → Q (some (.int 0)) (85, I, J, R)) ∧ (¬ p3 < p1 → Q (some (.int 1)) (85, I, J, R)))))) : ow_AM M_Mo_in (d + 1) [.int p1, .int p2, .int p3] (85, I, J, R) Q := by
  refine ow_enter (by decide) (Nat.le_of_ble_eq_true rfl) ?_
  show ow_AW ow_Y0 (ow_Z Q) M_Mo_in (d + 1) 0 0 0 [(0, .int p1), (1, .int p2), (2, .int p3)] [] (85, I, J, R) 0 0
  refine ow_iload_n 0 rfl d_Mo_in_0 ?_
  refine ow_iload_n 1 rfl d_Mo_in_1 ?_
  refine ow_icmp_lt (tgt := 14) d_Mo_in_2 (by decide) (fun c => ?_) (fun c => ?_)
  · replace T := T.1 c
    refine ow_iconst (v := 0) (by decide) d_Mo_in_14 ?_
    exact ow_zret d_Mo_in_15 rfl (by decide) T
  · replace T := T.2 c
    refine ow_iload_n 0 rfl d_Mo_in_5 ?_
    refine ow_iload_n 2 rfl d_Mo_in_6 ?_
    refine ow_icmp_gt (tgt := 14) d_Mo_in_7 (by decide) (fun c => ?_) (fun c => ?_)
    · replace T := T.1 c
      refine ow_iconst (v := 0) (by decide) d_Mo_in_14 ?_
      exact ow_zret d_Mo_in_15 rfl (by decide) T
    · replace T := T.2 c
      refine ow_iconst (v := 1) (by decide) d_Mo_in_10 ?_
      refine ow_goto (tgt := 15) d_Mo_in_11 (by decide) ?_
      exact ow_zret d_Mo_in_15 rfl (by decide) T
set_option maxRecDepth 4000 in
theorem t_Mo_hasBit {d : Nat} {I : Nat → Nat → Int32} {J : Nat → Nat → Int64} {R : Nat → Nat → Option Nat} {Q : Option Value → ow_H → Prop} {p1 : Int32} {p2 : Int32}  (hR : ow_RF R) (T : ((¬ ((p1 >>> (p2 &&& 31)) &&& 1) = 1 → Q (some (.int 0)) (85, I, J, R)) ∧ (((p1 >>> (p2 &&& 31)) &&& 1) = 1 → Q (some (.int 1)) (85, I, J, R)))) : ow_AM M_Mo_hasBit (d + 1) [.int p1, .int p2] (85, I, J, R) Q := by
  refine ow_enter (by decide) (Nat.le_of_ble_eq_true rfl) ?_
  show ow_AW ow_Y0 (ow_Z Q) M_Mo_hasBit (d + 1) 0 0 0 [(0, .int p1), (1, .int p2)] [] (85, I, J, R) 0 0
  refine ow_iload_n 0 rfl d_Mo_hasBit_0 ?_
  refine ow_iload_n 1 rfl d_Mo_hasBit_1 ?_
  refine ow_ishr d_Mo_hasBit_2 ?_
  refine ow_iconst (v := 1) (by decide) d_Mo_hasBit_3 ?_
  refine ow_iand d_Mo_hasBit_4 ?_
  refine ow_iconst (v := 1) (by decide) d_Mo_hasBit_5 ?_
  refine ow_icmp_ne (tgt := 13) d_Mo_hasBit_6 (by decide) (fun c => ?_) (fun c => ?_)
  · replace T := T.1 c
    refine ow_iconst (v := 0) (by decide) d_Mo_hasBit_13 ?_
    exact ow_zret d_Mo_hasBit_14 rfl (by decide) T
  · replace T := T.2 c
    refine ow_iconst (v := 1) (by decide) d_Mo_hasBit_9 ?_
    refine ow_goto (tgt := 14) d_Mo_hasBit_10 (by decide) ?_
    exact ow_zret d_Mo_hasBit_14 rfl (by decide) T
set_option maxRecDepth 4000 in
theorem t_Mo_ones_4 {d : Nat} {I : Nat → Nat → Int32} {J : Nat → Nat → Int64} {R : Nat → Nat → Option Nat} {Q : Option Value → ow_H → Prop}  {v0 : Int32} {v1 : Int32} {v2 : Int32}  (hR : ow_RF R) (T : ((12 ≤ v2 → Q (some (.int v1)) (85, I, J, R)) ∧ (¬ 12 ≤ v2 → ow_AW ow_Y0 (ow_Z Q) M_Mo_ones (d + 1) 0 0 4 [(0, .int v0), (1, .int (v1 + ((v0 >>> (v2 &&& 31)) &&& 1))), (2, .int (v2 + 1))] [] (85, I, J, R) 0 0))) : ow_AW ow_Y0 (ow_Z Q) M_Mo_ones (d + 1) 0 0 4 [(0, .int v0), (1, .int v1), (2, .int v2)] [] (85, I, J, R) 0 0 := by
  refine ow_iload_n 2 rfl d_Mo_ones_4 ?_
  refine ow_bipush (v := 12) (by decide) d_Mo_ones_5 ?_
  refine ow_icmp_ge (tgt := 24) d_Mo_ones_7 (by decide) (fun c => ?_) (fun c => ?_)
  · replace T := T.1 c
    refine ow_iload_n 1 rfl d_Mo_ones_24 ?_
    exact ow_iret d_Mo_ones_25 rfl T
  · replace T := T.2 c
    refine ow_iload_n 1 rfl d_Mo_ones_10 ?_
    refine ow_iload_n 0 rfl d_Mo_ones_11 ?_
    refine ow_iload_n 2 rfl d_Mo_ones_12 ?_
    refine ow_ishr d_Mo_ones_13 ?_
    refine ow_iconst (v := 1) (by decide) d_Mo_ones_14 ?_
    refine ow_iand d_Mo_ones_15 ?_
    refine ow_iadd d_Mo_ones_16 ?_
    refine ow_istore_n (ls2 := [(1, .int (v1 + ((v0 >>> (v2 &&& 31)) &&& 1))), (0, .int v0), (2, .int v2)]) d_Mo_ones_17 (by decide) rfl ?_
    refine ow_iinc 2 (v := (v2 + 1)) (ls2 := [(2, .int (v2 + 1)), (1, .int (v1 + ((v0 >>> (v2 &&& 31)) &&& 1))), (0, .int v0)]) d_Mo_ones_18 rfl rfl (by decide) rfl ?_
    refine ow_goto (tgt := 4) d_Mo_ones_21 (by decide) ?_
    refine ow_sub [2, 1, 0] rfl ?_
    exact T
set_option maxRecDepth 4000 in
theorem t_Mo_ones {d : Nat} {I : Nat → Nat → Int32} {J : Nat → Nat → Int64} {R : Nat → Nat → Option Nat} {Q : Option Value → ow_H → Prop} {p1 : Int32}  (hR : ow_RF R) (T : ow_AW ow_Y0 (ow_Z Q) M_Mo_ones (d + 1) 0 0 4 [(0, .int p1), (1, .int 0), (2, .int 0)] [] (85, I, J, R) 0 0) : ow_AM M_Mo_ones (d + 1) [.int p1] (85, I, J, R) Q := by
  refine ow_enter (by decide) (Nat.le_of_ble_eq_true rfl) ?_
  show ow_AW ow_Y0 (ow_Z Q) M_Mo_ones (d + 1) 0 0 0 [(0, .int p1)] [] (85, I, J, R) 0 0
  refine ow_iconst (v := 0) (by decide) d_Mo_ones_0 ?_
  refine ow_istore_n (ls2 := [(1, .int 0), (0, .int p1)]) d_Mo_ones_1 (by decide) rfl ?_
  refine ow_iconst (v := 0) (by decide) d_Mo_ones_2 ?_
  refine ow_istore_n (ls2 := [(2, .int 0), (1, .int 0), (0, .int p1)]) d_Mo_ones_3 (by decide) rfl ?_
  refine ow_sub [2, 1, 0] rfl ?_
  exact T
set_option maxRecDepth 4000 in
theorem t_Mo_copy_3 {d : Nat} {I : Nat → Nat → Int32} {J : Nat → Nat → Int64} {R : Nat → Nat → Option Nat} {Q : Option Value → ow_H → Prop} {a : Nat} {b : Nat} {v1 : Int32} {v3 : Int32} {v4 : Int32} {v5 : Int32} (a_lt : a < 85) (a_kd : ow_kd a = 14) (b_lt : b < 85) (b_kd : ow_kd b = 14) (hR : ow_RF R) (T : ((v4 ≤ v5 → Q none (85, I, J, R)) ∧ (¬ v4 ≤ v5 → (vp_in (v1 + v5) (ow_ln a) ∧ (vp_in (v3 + v5) (ow_ln b) ∧ (∀ (I1 : Nat → Nat → Int32), I1 = ow_u I b ((v3 + v5).toNatClampNeg) (I a (v1 + v5).toNatClampNeg) → ow_AW ow_Y0 (ow_Z Q) M_Mo_copy (d + 1) 0 0 3 [(0, .ref a), (1, .int v1), (2, .ref b), (3, .int v3), (4, .int v4), (5, .int (v5 + 1))] [] (85, I1, J, R) 0 0)))))) : ow_AW ow_Y0 (ow_Z Q) M_Mo_copy (d + 1) 0 0 3 [(0, .ref a), (1, .int v1), (2, .ref b), (3, .int v3), (4, .int v4), (5, .int v5)] [] (85, I, J, R) 0 0 := by
  refine ow_iload 5 rfl d_Mo_copy_3 ?_
  refine ow_iload 4 rfl d_Mo_copy_5 ?_
  refine ow_icmp_ge (tgt := 28) d_Mo_copy_7 (by decide) (fun c => ?_) (fun c => ?_)
  · replace T := T.1 c
    exact ow_vret d_Mo_copy_28 rfl T
  · replace T := T.2 c
    refine ow_aload_n 2 rfl d_Mo_copy_10 ?_
    refine ow_iload_n 3 rfl d_Mo_copy_11 ?_
    refine ow_iload 5 rfl d_Mo_copy_12 ?_
    refine ow_iadd d_Mo_copy_14 ?_
    refine ow_aload_n 0 rfl d_Mo_copy_15 ?_
    refine ow_iload_n 1 rfl d_Mo_copy_16 ?_
    refine ow_iload 5 rfl d_Mo_copy_17 ?_
    refine ow_iadd d_Mo_copy_19 ?_
    obtain ⟨cI, T⟩ := T
    refine ow_hiaload d_Mo_copy_20 a_lt a_kd rfl cI ?_
    obtain ⟨cI, T⟩ := T
    refine ow_hiastore d_Mo_copy_21 b_lt b_kd rfl cI ?_
    obtain ⟨I1, eI1⟩ : ∃ uu, uu = ow_u I b ((v3 + v5).toNatClampNeg) (I a (v1 + v5).toNatClampNeg) := ⟨_, rfl⟩
    replace T := T I1 eI1
    rw [← eI1]
    refine ow_iinc 5 (v := (v5 + 1)) (ls2 := [(5, .int (v5 + 1)), (0, .ref a), (1, .int v1), (2, .ref b), (3, .int v3), (4, .int v4)]) d_Mo_copy_22 rfl rfl (by decide) rfl ?_
    refine ow_goto (tgt := 3) d_Mo_copy_25 (by decide) ?_
    refine ow_sub [1, 2, 3, 4, 5, 0] rfl ?_
    exact T
set_option maxRecDepth 4000 in
theorem t_Mo_copy {d : Nat} {I : Nat → Nat → Int32} {J : Nat → Nat → Int64} {R : Nat → Nat → Option Nat} {Q : Option Value → ow_H → Prop} {a : Nat} {p1 : Int32} {b : Nat} {p2 : Int32} {p3 : Int32} (a_lt : a < 85) (a_kd : ow_kd a = 14) (b_lt : b < 85) (b_kd : ow_kd b = 14) (hR : ow_RF R) (T : ow_AW ow_Y0 (ow_Z Q) M_Mo_copy (d + 1) 0 0 3 [(0, .ref a), (1, .int p1), (2, .ref b), (3, .int p2), (4, .int p3), (5, .int 0)] [] (85, I, J, R) 0 0) : ow_AM M_Mo_copy (d + 1) [.ref a, .int p1, .ref b, .int p2, .int p3] (85, I, J, R) Q := by
  refine ow_enter (by decide) (Nat.le_of_ble_eq_true rfl) ?_
  show ow_AW ow_Y0 (ow_Z Q) M_Mo_copy (d + 1) 0 0 0 [(0, .ref a), (1, .int p1), (2, .ref b), (3, .int p2), (4, .int p3)] [] (85, I, J, R) 0 0
  refine ow_iconst (v := 0) (by decide) d_Mo_copy_0 ?_
  refine ow_istore (ls2 := [(5, .int 0), (0, .ref a), (1, .int p1), (2, .ref b), (3, .int p2), (4, .int p3)]) d_Mo_copy_1 (by decide) rfl ?_
  refine ow_sub [1, 2, 3, 4, 5, 0] rfl ?_
  exact T
set_option maxRecDepth 4000 in
theorem t_Mo_lowest_6 {d : Nat} {I : Nat → Nat → Int32} {J : Nat → Nat → Int64} {R : Nat → Nat → Option Nat} {Q : Option Value → ow_H → Prop}  {v0 : Int64} {v2 : Int64} {v4 : Int32} {v5 : Int64} {v7 : Int64}  (hR : ow_RF R) (T : (((lg_cmp v7 0) = 0 → ((v4 = 0 → (¬ v5 = 0 ∧ Q (some (.long (v0 / v5))) (85, I, J, R))) ∧ (¬ v4 = 0 → (¬ v5 = 0 ∧ Q (some (.long (v2 / v5))) (85, I, J, R))))) ∧ (¬ (lg_cmp v7 0) = 0 → (¬ v7 = 0 ∧ ow_AW ow_Y0 (ow_Z Q) M_Mo_lowest (d + 1) 0 0 6 [(0, .long v0), (2, .long v2), (4, .int v4), (5, .long v7), (7, .long (v5 - v5 / v7 * v7))] [] (85, I, J, R) 0 0)))) : ow_AW ow_Y0 (ow_Z Q) M_Mo_lowest (d + 1) 0 0 6 [(0, .long v0), (2, .long v2), (4, .int v4), (5, .long v5), (7, .long v7)] [] (85, I, J, R) 0 0 := by
  refine ow_lload 4 rfl d_Mo_lowest_6 ?_
  refine ow_lconst (v := 0) (by decide) d_Mo_lowest_8 ?_
  refine ow_lcmp d_Mo_lowest_9 ?_
  refine ow_if_eq (tgt := 31) d_Mo_lowest_10 (by decide) (fun c => ?_) (fun c => ?_)
  · replace T := T.1 c
    refine ow_iload 2 rfl d_Mo_lowest_31 ?_
    refine ow_if_eq (tgt := 40) d_Mo_lowest_33 (by decide) (fun c => ?_) (fun c => ?_)
    · replace T := T.1 c
      refine ow_lload_n 0 rfl d_Mo_lowest_40 ?_
      refine ow_lload 3 rfl d_Mo_lowest_41 ?_
      obtain ⟨c, T⟩ := T
      refine ow_ldiv c d_Mo_lowest_43 ?_
      exact ow_lret d_Mo_lowest_44 rfl T
    · replace T := T.2 c
      refine ow_lload_n 1 rfl d_Mo_lowest_36 ?_
      refine ow_goto (tgt := 41) d_Mo_lowest_37 (by decide) ?_
      refine ow_lload 3 rfl d_Mo_lowest_41 ?_
      obtain ⟨c, T⟩ := T
      refine ow_ldiv c d_Mo_lowest_43 ?_
      exact ow_lret d_Mo_lowest_44 rfl T
  · replace T := T.2 c
    refine ow_lload 3 rfl d_Mo_lowest_13 ?_
    refine ow_lload 4 rfl d_Mo_lowest_15 ?_
    obtain ⟨c, T⟩ := T
    refine ow_lrem c d_Mo_lowest_17 ?_
    refine ow_lstore (ls2 := [(9, .long (v5 - v5 / v7 * v7)), (0, .long v0), (2, .long v2), (4, .int v4), (5, .long v5), (7, .long v7)]) d_Mo_lowest_18 (by decide) rfl ?_
    refine ow_lload 5 rfl d_Mo_lowest_20 ?_
    refine ow_lstore (ls2 := [(5, .long v7), (9, .long (v5 - v5 / v7 * v7)), (0, .long v0), (2, .long v2), (4, .int v4), (7, .long v7)]) d_Mo_lowest_22 (by decide) rfl ?_
    refine ow_lload 1 rfl d_Mo_lowest_24 ?_
    refine ow_lstore (ls2 := [(7, .long (v5 - v5 / v7 * v7)), (5, .long v7), (9, .long (v5 - v5 / v7 * v7)), (0, .long v0), (2, .long v2), (4, .int v4)]) d_Mo_lowest_26 (by decide) rfl ?_
    refine ow_goto (tgt := 6) d_Mo_lowest_28 (by decide) ?_
    refine ow_sub [3, 4, 5, 1, 0] rfl ?_
    exact T
set_option maxRecDepth 4000 in
theorem t_Mo_lowest {d : Nat} {I : Nat → Nat → Int32} {J : Nat → Nat → Int64} {R : Nat → Nat → Option Nat} {Q : Option Value → ow_H → Prop} {p1 : Int64} {p2 : Int64} {p3 : Int32}  (hR : ow_RF R) (T : ow_AW ow_Y0 (ow_Z Q) M_Mo_lowest (d + 1) 0 0 6 [(0, .long p1), (2, .long p2), (4, .int p3), (5, .long p2), (7, .long p1)] [] (85, I, J, R) 0 0) : ow_AM M_Mo_lowest (d + 1) [.long p1, .long p2, .int p3] (85, I, J, R) Q := by
  refine ow_enter (by decide) (Nat.le_of_ble_eq_true rfl) ?_
  show ow_AW ow_Y0 (ow_Z Q) M_Mo_lowest (d + 1) 0 0 0 [(0, .long p1), (2, .long p2), (4, .int p3)] [] (85, I, J, R) 0 0
  refine ow_lload_n 1 rfl d_Mo_lowest_0 ?_
  refine ow_lstore (ls2 := [(5, .long p2), (0, .long p1), (2, .long p2), (4, .int p3)]) d_Mo_lowest_1 (by decide) rfl ?_
  refine ow_lload_n 1 rfl d_Mo_lowest_3 ?_
  refine ow_lstore (ls2 := [(7, .long p1), (5, .long p2), (0, .long p1), (2, .long p2), (4, .int p3)]) d_Mo_lowest_4 (by decide) rfl ?_
  refine ow_sub [2, 3, 4, 1, 0] rfl ?_
  exact T
set_option maxRecDepth 4000 in
theorem t_Mo_feed_23 {d : Nat} {I : Nat → Nat → Int32} {J : Nat → Nat → Int64} {R : Nat → Nat → Option Nat} {Q : Option Value → ow_H → Prop}  {v1 : Int32} {v2 : Int32} {v3 : Int32} {v4 : Int32} {v5 : Int32} {v6 : Int32}  (hR : ow_RF R) (T : ((20 ≤ v6 → Q (some (.int (I 70 2))) (85, I, J, R)) ∧ (¬ 20 ≤ v6 → ((4 ≤ v6 → ((8 ≤ v6 → ((12 ≤ v6 → ((16 ≤ v6 → (vp_in (I 70 2) 900 ∧ (∀ (I2 : Nat → Nat → Int32), I2 = ow_u I 71 ((I 70 2).toNatClampNeg) ((v5 >>> ((24 - (8 * (v6 - v6 / 4 * 4))) &&& 31)) &&& 255) → (∀ (I3 : Nat → Nat → Int32), I3 = ow_u I2 70 2 ((I2 70 2) + 1) → ow_AW ow_Y0 (ow_Z Q) M_Mo_feed (d + 1) 0 0 23 [(0, .ref 70), (1, .int v1), (2, .int v2), (3, .int v3), (4, .int v4), (5, .int v5), (6, .int (v6 + 1))] [] (85, I3, J, R) 0 0)))) ∧ (¬ 16 ≤ v6 → (vp_in (I 70 2) 900 ∧ (∀ (I4 : Nat → Nat → Int32), I4 = ow_u I 71 ((I 70 2).toNatClampNeg) ((v4 >>> ((24 - (8 * (v6 - v6 / 4 * 4))) &&& 31)) &&& 255) → (∀ (I5 : Nat → Nat → Int32), I5 = ow_u I4 70 2 ((I4 70 2) + 1) → ow_AW ow_Y0 (ow_Z Q) M_Mo_feed (d + 1) 0 0 23 [(0, .ref 70), (1, .int v1), (2, .int v2), (3, .int v3), (4, .int v4), (5, .int v5), (6, .int (v6 + 1))] [] (85, I5, J, R) 0 0)))))) ∧ (¬ 12 ≤ v6 → (vp_in (I 70 2) 900 ∧ (∀ (I6 : Nat → Nat → Int32), I6 = ow_u I 71 ((I 70 2).toNatClampNeg) ((v3 >>> ((24 - (8 * (v6 - v6 / 4 * 4))) &&& 31)) &&& 255) → (∀ (I7 : Nat → Nat → Int32), I7 = ow_u I6 70 2 ((I6 70 2) + 1) → ow_AW ow_Y0 (ow_Z Q) M_Mo_feed (d + 1) 0 0 23 [(0, .ref 70), (1, .int v1), (2, .int v2), (3, .int v3), (4, .int v4), (5, .int v5), (6, .int (v6 + 1))] [] (85, I7, J, R) 0 0)))))) ∧ (¬ 8 ≤ v6 → (vp_in (I 70 2) 900 ∧ (∀ (I8 : Nat → Nat → Int32), I8 = ow_u I 71 ((I 70 2).toNatClampNeg) ((v2 >>> ((24 - (8 * (v6 - v6 / 4 * 4))) &&& 31)) &&& 255) → (∀ (I9 : Nat → Nat → Int32), I9 = ow_u I8 70 2 ((I8 70 2) + 1) → ow_AW ow_Y0 (ow_Z Q) M_Mo_feed (d + 1) 0 0 23 [(0, .ref 70), (1, .int v1), (2, .int v2), (3, .int v3), (4, .int v4), (5, .int v5), (6, .int (v6 + 1))] [] (85, I9, J, R) 0 0)))))) ∧ (¬ 4 ≤ v6 → (vp_in (I 70 2) 900 ∧ (∀ (I10 : Nat → Nat → Int32), I10 = ow_u I 71 ((I 70 2).toNatClampNeg) ((v1 >>> ((24 - (8 * (v6 - v6 / 4 * 4))) &&& 31)) &&& 255) → (∀ (I11 : Nat → Nat → Int32), I11 = ow_u I10 70 2 ((I10 70 2) + 1) → ow_AW ow_Y0 (ow_Z Q) M_Mo_feed (d + 1) 0 0 23 [(0, .ref 70), (1, .int v1), (2, .int v2), (3, .int v3), (4, .int v4), (5, .int v5), (6, .int (v6 + 1))] [] (85, I11, J, R) 0 0)))))))) : ow_AW ow_Y0 (ow_Z Q) M_Mo_feed (d + 1) 0 0 23 [(0, .ref 70), (1, .int v1), (2, .int v2), (3, .int v3), (4, .int v4), (5, .int v5), (6, .int v6)] [] (85, I, J, R) 0 0 := by
  refine ow_iload 6 rfl d_Mo_feed_23 ?_
  refine ow_bipush (v := 20) (by decide) d_Mo_feed_25 ?_
  refine ow_icmp_ge (tgt := 120) d_Mo_feed_27 (by decide) (fun c => ?_) (fun c => ?_)
  · replace T := T.1 c
    refine ow_aload_n 0 rfl d_Mo_feed_120 ?_
    refine ow_gI 171 d_Mo_feed_121 rfl rfl (by decide) rfl (Or.inl rfl) ?_
    exact ow_iret d_Mo_feed_124 rfl T
  · replace T := T.2 c
    refine ow_iload 6 rfl d_Mo_feed_30 ?_
    refine ow_iconst (v := 4) (by decide) d_Mo_feed_32 ?_
    refine ow_icmp_ge (tgt := 40) d_Mo_feed_33 (by decide) (fun c => ?_) (fun c => ?_)
    · replace T := T.1 c
      refine ow_iload 6 rfl d_Mo_feed_40 ?_
      refine ow_bipush (v := 8) (by decide) d_Mo_feed_42 ?_
      refine ow_icmp_ge (tgt := 51) d_Mo_feed_44 (by decide) (fun c => ?_) (fun c => ?_)
      · replace T := T.1 c
        refine ow_iload 6 rfl d_Mo_feed_51 ?_
        refine ow_bipush (v := 12) (by decide) d_Mo_feed_53 ?_
        refine ow_icmp_ge (tgt := 62) d_Mo_feed_55 (by decide) (fun c => ?_) (fun c => ?_)
        · replace T := T.1 c
          refine ow_iload 6 rfl d_Mo_feed_62 ?_
          refine ow_bipush (v := 16) (by decide) d_Mo_feed_64 ?_
          refine ow_icmp_ge (tgt := 74) d_Mo_feed_66 (by decide) (fun c => ?_) (fun c => ?_)
          · replace T := T.1 c
            refine ow_iload 5 rfl d_Mo_feed_74 ?_
            refine ow_istore (ls2 := [(7, .int v5), (0, .ref 70), (1, .int v1), (2, .int v2), (3, .int v3), (4, .int v4), (5, .int v5), (6, .int v6)]) d_Mo_feed_76 (by decide) rfl ?_
            refine ow_aload_n 1 rfl d_Mo_feed_78 ?_
            refine ow_gR (a := 71) 170 d_Mo_feed_79 rfl rfl (by decide) rfl ⟨rfl, hR 70 1 (by decide)⟩ ?_
            refine ow_aload_n 1 rfl d_Mo_feed_82 ?_
            refine ow_gI 171 d_Mo_feed_83 rfl rfl (by decide) rfl (Or.inl rfl) ?_
            refine ow_iload 0 rfl d_Mo_feed_86 ?_
            refine ow_bipush (v := 24) (by decide) d_Mo_feed_88 ?_
            refine ow_bipush (v := 8) (by decide) d_Mo_feed_90 ?_
            refine ow_iload 7 rfl d_Mo_feed_92 ?_
            refine ow_iconst (v := 4) (by decide) d_Mo_feed_94 ?_
            refine ow_irem (by decide) d_Mo_feed_95 ?_
            refine ow_imul d_Mo_feed_96 ?_
            refine ow_isub d_Mo_feed_97 ?_
            refine ow_ishr d_Mo_feed_98 ?_
            refine ow_sipush (v := 255) (by decide) d_Mo_feed_99 ?_
            refine ow_iand d_Mo_feed_102 ?_
            obtain ⟨cI, T⟩ := T
            refine ow_hiastore d_Mo_feed_103 (by decide) rfl rfl cI ?_
            obtain ⟨I2, eI2⟩ : ∃ uu, uu = ow_u I 71 ((I 70 2).toNatClampNeg) ((v5 >>> ((24 - (8 * (v6 - v6 / 4 * 4))) &&& 31)) &&& 255) := ⟨_, rfl⟩
            replace T := T I2 eI2
            rw [← eI2]
            refine ow_aload_n 1 rfl d_Mo_feed_104 ?_
            refine ow_dup rfl d_Mo_feed_105 ?_
            refine ow_gI 171 d_Mo_feed_106 rfl rfl (by decide) rfl (Or.inl rfl) ?_
            refine ow_iconst (v := 1) (by decide) d_Mo_feed_109 ?_
            refine ow_iadd d_Mo_feed_110 ?_
            refine ow_pI 171 d_Mo_feed_111 rfl rfl (by decide) rfl rfl rfl ?_
            obtain ⟨I3, eI3⟩ : ∃ uu, uu = ow_u I2 70 2 ((I2 70 2) + 1) := ⟨_, rfl⟩
            replace T := T I3 eI3
            rw [← eI3]
            refine ow_iinc 7 (v := (v6 + 1)) (ls2 := [(6, .int (v6 + 1)), (7, .int v5), (0, .ref 70), (1, .int v1), (2, .int v2), (3, .int v3), (4, .int v4), (5, .int v5)]) d_Mo_feed_114 rfl rfl (by decide) rfl ?_
            refine ow_goto (tgt := 23) d_Mo_feed_117 (by decide) ?_
            refine ow_sub [2, 3, 4, 5, 6, 7, 0] rfl ?_
            exact T
          · replace T := T.2 c
            refine ow_iload 4 rfl d_Mo_feed_69 ?_
            refine ow_goto (tgt := 76) d_Mo_feed_71 (by decide) ?_
            refine ow_istore (ls2 := [(7, .int v4), (0, .ref 70), (1, .int v1), (2, .int v2), (3, .int v3), (4, .int v4), (5, .int v5), (6, .int v6)]) d_Mo_feed_76 (by decide) rfl ?_
            refine ow_aload_n 1 rfl d_Mo_feed_78 ?_
            refine ow_gR (a := 71) 170 d_Mo_feed_79 rfl rfl (by decide) rfl ⟨rfl, hR 70 1 (by decide)⟩ ?_
            refine ow_aload_n 1 rfl d_Mo_feed_82 ?_
            refine ow_gI 171 d_Mo_feed_83 rfl rfl (by decide) rfl (Or.inl rfl) ?_
            refine ow_iload 0 rfl d_Mo_feed_86 ?_
            refine ow_bipush (v := 24) (by decide) d_Mo_feed_88 ?_
            refine ow_bipush (v := 8) (by decide) d_Mo_feed_90 ?_
            refine ow_iload 7 rfl d_Mo_feed_92 ?_
            refine ow_iconst (v := 4) (by decide) d_Mo_feed_94 ?_
            refine ow_irem (by decide) d_Mo_feed_95 ?_
            refine ow_imul d_Mo_feed_96 ?_
            refine ow_isub d_Mo_feed_97 ?_
            refine ow_ishr d_Mo_feed_98 ?_
            refine ow_sipush (v := 255) (by decide) d_Mo_feed_99 ?_
            refine ow_iand d_Mo_feed_102 ?_
            obtain ⟨cI, T⟩ := T
            refine ow_hiastore d_Mo_feed_103 (by decide) rfl rfl cI ?_
            obtain ⟨I4, eI4⟩ : ∃ uu, uu = ow_u I 71 ((I 70 2).toNatClampNeg) ((v4 >>> ((24 - (8 * (v6 - v6 / 4 * 4))) &&& 31)) &&& 255) := ⟨_, rfl⟩
            replace T := T I4 eI4
            rw [← eI4]
            refine ow_aload_n 1 rfl d_Mo_feed_104 ?_
            refine ow_dup rfl d_Mo_feed_105 ?_
            refine ow_gI 171 d_Mo_feed_106 rfl rfl (by decide) rfl (Or.inl rfl) ?_
            refine ow_iconst (v := 1) (by decide) d_Mo_feed_109 ?_
            refine ow_iadd d_Mo_feed_110 ?_
            refine ow_pI 171 d_Mo_feed_111 rfl rfl (by decide) rfl rfl rfl ?_
            obtain ⟨I5, eI5⟩ : ∃ uu, uu = ow_u I4 70 2 ((I4 70 2) + 1) := ⟨_, rfl⟩
            replace T := T I5 eI5
            rw [← eI5]
            refine ow_iinc 7 (v := (v6 + 1)) (ls2 := [(6, .int (v6 + 1)), (7, .int v4), (0, .ref 70), (1, .int v1), (2, .int v2), (3, .int v3), (4, .int v4), (5, .int v5)]) d_Mo_feed_114 rfl rfl (by decide) rfl ?_
            refine ow_goto (tgt := 23) d_Mo_feed_117 (by decide) ?_
            refine ow_sub [2, 3, 4, 5, 6, 7, 0] rfl ?_
            exact T
        · replace T := T.2 c
          refine ow_iload_n 3 rfl d_Mo_feed_58 ?_
          refine ow_goto (tgt := 76) d_Mo_feed_59 (by decide) ?_
          refine ow_istore (ls2 := [(7, .int v3), (0, .ref 70), (1, .int v1), (2, .int v2), (3, .int v3), (4, .int v4), (5, .int v5), (6, .int v6)]) d_Mo_feed_76 (by decide) rfl ?_
          refine ow_aload_n 1 rfl d_Mo_feed_78 ?_
          refine ow_gR (a := 71) 170 d_Mo_feed_79 rfl rfl (by decide) rfl ⟨rfl, hR 70 1 (by decide)⟩ ?_
          refine ow_aload_n 1 rfl d_Mo_feed_82 ?_
          refine ow_gI 171 d_Mo_feed_83 rfl rfl (by decide) rfl (Or.inl rfl) ?_
          refine ow_iload 0 rfl d_Mo_feed_86 ?_
          refine ow_bipush (v := 24) (by decide) d_Mo_feed_88 ?_
          refine ow_bipush (v := 8) (by decide) d_Mo_feed_90 ?_
          refine ow_iload 7 rfl d_Mo_feed_92 ?_
          refine ow_iconst (v := 4) (by decide) d_Mo_feed_94 ?_
          refine ow_irem (by decide) d_Mo_feed_95 ?_
          refine ow_imul d_Mo_feed_96 ?_
          refine ow_isub d_Mo_feed_97 ?_
          refine ow_ishr d_Mo_feed_98 ?_
          refine ow_sipush (v := 255) (by decide) d_Mo_feed_99 ?_
          refine ow_iand d_Mo_feed_102 ?_
          obtain ⟨cI, T⟩ := T
          refine ow_hiastore d_Mo_feed_103 (by decide) rfl rfl cI ?_
          obtain ⟨I6, eI6⟩ : ∃ uu, uu = ow_u I 71 ((I 70 2).toNatClampNeg) ((v3 >>> ((24 - (8 * (v6 - v6 / 4 * 4))) &&& 31)) &&& 255) := ⟨_, rfl⟩
          replace T := T I6 eI6
          rw [← eI6]
          refine ow_aload_n 1 rfl d_Mo_feed_104 ?_
          refine ow_dup rfl d_Mo_feed_105 ?_
          refine ow_gI 171 d_Mo_feed_106 rfl rfl (by decide) rfl (Or.inl rfl) ?_
          refine ow_iconst (v := 1) (by decide) d_Mo_feed_109 ?_
          refine ow_iadd d_Mo_feed_110 ?_
          refine ow_pI 171 d_Mo_feed_111 rfl rfl (by decide) rfl rfl rfl ?_
          obtain ⟨I7, eI7⟩ : ∃ uu, uu = ow_u I6 70 2 ((I6 70 2) + 1) := ⟨_, rfl⟩
          replace T := T I7 eI7
          rw [← eI7]
          refine ow_iinc 7 (v := (v6 + 1)) (ls2 := [(6, .int (v6 + 1)), (7, .int v3), (0, .ref 70), (1, .int v1), (2, .int v2), (3, .int v3), (4, .int v4), (5, .int v5)]) d_Mo_feed_114 rfl rfl (by decide) rfl ?_
          refine ow_goto (tgt := 23) d_Mo_feed_117 (by decide) ?_
          refine ow_sub [2, 3, 4, 5, 6, 7, 0] rfl ?_
          exact T
      · replace T := T.2 c
        refine ow_iload_n 2 rfl d_Mo_feed_47 ?_
        refine ow_goto (tgt := 76) d_Mo_feed_48 (by decide) ?_
        refine ow_istore (ls2 := [(7, .int v2), (0, .ref 70), (1, .int v1), (2, .int v2), (3, .int v3), (4, .int v4), (5, .int v5), (6, .int v6)]) d_Mo_feed_76 (by decide) rfl ?_
        refine ow_aload_n 1 rfl d_Mo_feed_78 ?_
        refine ow_gR (a := 71) 170 d_Mo_feed_79 rfl rfl (by decide) rfl ⟨rfl, hR 70 1 (by decide)⟩ ?_
        refine ow_aload_n 1 rfl d_Mo_feed_82 ?_
        refine ow_gI 171 d_Mo_feed_83 rfl rfl (by decide) rfl (Or.inl rfl) ?_
        refine ow_iload 0 rfl d_Mo_feed_86 ?_
        refine ow_bipush (v := 24) (by decide) d_Mo_feed_88 ?_
        refine ow_bipush (v := 8) (by decide) d_Mo_feed_90 ?_
        refine ow_iload 7 rfl d_Mo_feed_92 ?_
        refine ow_iconst (v := 4) (by decide) d_Mo_feed_94 ?_
        refine ow_irem (by decide) d_Mo_feed_95 ?_
        refine ow_imul d_Mo_feed_96 ?_
        refine ow_isub d_Mo_feed_97 ?_
        refine ow_ishr d_Mo_feed_98 ?_
        refine ow_sipush (v := 255) (by decide) d_Mo_feed_99 ?_
        refine ow_iand d_Mo_feed_102 ?_
        obtain ⟨cI, T⟩ := T
        refine ow_hiastore d_Mo_feed_103 (by decide) rfl rfl cI ?_
        obtain ⟨I8, eI8⟩ : ∃ uu, uu = ow_u I 71 ((I 70 2).toNatClampNeg) ((v2 >>> ((24 - (8 * (v6 - v6 / 4 * 4))) &&& 31)) &&& 255) := ⟨_, rfl⟩
        replace T := T I8 eI8
        rw [← eI8]
        refine ow_aload_n 1 rfl d_Mo_feed_104 ?_
        refine ow_dup rfl d_Mo_feed_105 ?_
        refine ow_gI 171 d_Mo_feed_106 rfl rfl (by decide) rfl (Or.inl rfl) ?_
        refine ow_iconst (v := 1) (by decide) d_Mo_feed_109 ?_
        refine ow_iadd d_Mo_feed_110 ?_
        refine ow_pI 171 d_Mo_feed_111 rfl rfl (by decide) rfl rfl rfl ?_
        obtain ⟨I9, eI9⟩ : ∃ uu, uu = ow_u I8 70 2 ((I8 70 2) + 1) := ⟨_, rfl⟩
        replace T := T I9 eI9
        rw [← eI9]
        refine ow_iinc 7 (v := (v6 + 1)) (ls2 := [(6, .int (v6 + 1)), (7, .int v2), (0, .ref 70), (1, .int v1), (2, .int v2), (3, .int v3), (4, .int v4), (5, .int v5)]) d_Mo_feed_114 rfl rfl (by decide) rfl ?_
        refine ow_goto (tgt := 23) d_Mo_feed_117 (by decide) ?_
        refine ow_sub [2, 3, 4, 5, 6, 7, 0] rfl ?_
        exact T
    · replace T := T.2 c
      refine ow_iload_n 1 rfl d_Mo_feed_36 ?_
      refine ow_goto (tgt := 76) d_Mo_feed_37 (by decide) ?_
      refine ow_istore (ls2 := [(7, .int v1), (0, .ref 70), (1, .int v1), (2, .int v2), (3, .int v3), (4, .int v4), (5, .int v5), (6, .int v6)]) d_Mo_feed_76 (by decide) rfl ?_
      refine ow_aload_n 1 rfl d_Mo_feed_78 ?_
      refine ow_gR (a := 71) 170 d_Mo_feed_79 rfl rfl (by decide) rfl ⟨rfl, hR 70 1 (by decide)⟩ ?_
      refine ow_aload_n 1 rfl d_Mo_feed_82 ?_
      refine ow_gI 171 d_Mo_feed_83 rfl rfl (by decide) rfl (Or.inl rfl) ?_
      refine ow_iload 0 rfl d_Mo_feed_86 ?_
      refine ow_bipush (v := 24) (by decide) d_Mo_feed_88 ?_
      refine ow_bipush (v := 8) (by decide) d_Mo_feed_90 ?_
      refine ow_iload 7 rfl d_Mo_feed_92 ?_
      refine ow_iconst (v := 4) (by decide) d_Mo_feed_94 ?_
      refine ow_irem (by decide) d_Mo_feed_95 ?_
      refine ow_imul d_Mo_feed_96 ?_
      refine ow_isub d_Mo_feed_97 ?_
      refine ow_ishr d_Mo_feed_98 ?_
      refine ow_sipush (v := 255) (by decide) d_Mo_feed_99 ?_
      refine ow_iand d_Mo_feed_102 ?_
      obtain ⟨cI, T⟩ := T
      refine ow_hiastore d_Mo_feed_103 (by decide) rfl rfl cI ?_
      obtain ⟨I10, eI10⟩ : ∃ uu, uu = ow_u I 71 ((I 70 2).toNatClampNeg) ((v1 >>> ((24 - (8 * (v6 - v6 / 4 * 4))) &&& 31)) &&& 255) := ⟨_, rfl⟩
      replace T := T I10 eI10
      rw [← eI10]
      refine ow_aload_n 1 rfl d_Mo_feed_104 ?_
      refine ow_dup rfl d_Mo_feed_105 ?_
      refine ow_gI 171 d_Mo_feed_106 rfl rfl (by decide) rfl (Or.inl rfl) ?_
      refine ow_iconst (v := 1) (by decide) d_Mo_feed_109 ?_
      refine ow_iadd d_Mo_feed_110 ?_
      refine ow_pI 171 d_Mo_feed_111 rfl rfl (by decide) rfl rfl rfl ?_
      obtain ⟨I11, eI11⟩ : ∃ uu, uu = ow_u I10 70 2 ((I10 70 2) + 1) := ⟨_, rfl⟩
      replace T := T I11 eI11
      rw [← eI11]
      refine ow_iinc 7 (v := (v6 + 1)) (ls2 := [(6, .int (v6 + 1)), (7, .int v1), (0, .ref 70), (1, .int v1), (2, .int v2), (3, .int v3), (4, .int v4), (5, .int v5)]) d_Mo_feed_114 rfl rfl (by decide) rfl ?_
      refine ow_goto (tgt := 23) d_Mo_feed_117 (by decide) ?_
      refine ow_sub [2, 3, 4, 5, 6, 7, 0] rfl ?_
      exact T
set_option maxRecDepth 4000 in
theorem t_Mo_feed {d : Nat} {I : Nat → Nat → Int32} {J : Nat → Nat → Int64} {R : Nat → Nat → Option Nat} {Q : Option Value → ow_H → Prop} {p1 : Int32} {p2 : Int32} {p3 : Int32} {p4 : Int32} {p5 : Int32}  (hR : ow_RF R) (T : (∀ (I12 : Nat → Nat → Int32), I12 = ow_u I 70 0 0 → ((((I12 70 2) + 20) ≤ 900 → ow_AW ow_Y0 (ow_Z Q) M_Mo_feed (d + 1) 0 0 23 [(0, .ref 70), (1, .int p1), (2, .int p2), (3, .int p3), (4, .int p4), (5, .int p5), (6, .int 0)] [] (85, I12, J, R) 0 0) ∧ (¬ ((I12 70 2) + 20) ≤ 900 → Q (some (.int (-1))) (85, I12, J, R))))) : ow_AM M_Mo_feed (d + 1) [.ref 70, .int p1, .int p2, .int p3, .int p4, .int p5] (85, I, J, R) Q := by
  refine ow_enter (by decide) (Nat.le_of_ble_eq_true rfl) ?_
  show ow_AW ow_Y0 (ow_Z Q) M_Mo_feed (d + 1) 0 0 0 [(0, .ref 70), (1, .int p1), (2, .int p2), (3, .int p3), (4, .int p4), (5, .int p5)] [] (85, I, J, R) 0 0
  refine ow_aload_n 0 rfl d_Mo_feed_0 ?_
  refine ow_iconst (v := 0) (by decide) d_Mo_feed_1 ?_
  refine ow_pI 169 d_Mo_feed_2 rfl rfl (by decide) rfl rfl rfl ?_
  obtain ⟨I12, eI12⟩ : ∃ uu, uu = ow_u I 70 0 0 := ⟨_, rfl⟩
  replace T := T I12 eI12
  rw [← eI12]
  refine ow_aload_n 0 rfl d_Mo_feed_5 ?_
  refine ow_gI 171 d_Mo_feed_6 rfl rfl (by decide) rfl (Or.inl rfl) ?_
  refine ow_bipush (v := 20) (by decide) d_Mo_feed_9 ?_
  refine ow_iadd d_Mo_feed_11 ?_
  refine ow_sipush (v := 900) (by decide) d_Mo_feed_12 ?_
  refine ow_icmp_le (tgt := 20) d_Mo_feed_15 (by decide) (fun c => ?_) (fun c => ?_)
  · replace T := T.1 c
    refine ow_iconst (v := 0) (by decide) d_Mo_feed_20 ?_
    refine ow_istore (ls2 := [(6, .int 0), (0, .ref 70), (1, .int p1), (2, .int p2), (3, .int p3), (4, .int p4), (5, .int p5)]) d_Mo_feed_21 (by decide) rfl ?_
    refine ow_sub [1, 2, 3, 4, 5, 6, 0] rfl ?_
    exact T
  · replace T := T.2 c
    refine ow_iconst (v := (-1)) (by decide) d_Mo_feed_18 ?_
    exact ow_iret d_Mo_feed_19 rfl T
set_option maxRecDepth 4000 in
theorem t_Mo_see {d : Nat} {I : Nat → Nat → Int32} {J : Nat → Nat → Int64} {R : Nat → Nat → Option Nat} {Q : Option Value → ow_H → Prop} {p1 : Int32}  (hR : ow_RF R) (T : (((I 70 3) ≤ p1 → Q (some (.int (-1))) (85, I, J, R)) ∧ (¬ (I 70 3) ≤ p1 → (vp_in p1 900 ∧ Q (some (.int (I 71 p1.toNatClampNeg))) (85, I, J, R))))) : ow_AM M_Mo_see (d + 1) [.ref 70, .int p1] (85, I, J, R) Q := by
  refine ow_enter (by decide) (Nat.le_of_ble_eq_true rfl) ?_
  show ow_AW ow_Y0 (ow_Z Q) M_Mo_see (d + 1) 0 0 0 [(0, .ref 70), (1, .int p1)] [] (85, I, J, R) 0 0
  refine ow_iload_n 1 rfl d_Mo_see_0 ?_
  refine ow_aload_n 0 rfl d_Mo_see_1 ?_
  refine ow_gI 172 d_Mo_see_2 rfl rfl (by decide) rfl (Or.inl rfl) ?_
  refine ow_icmp_ge (tgt := 17) d_Mo_see_5 (by decide) (fun c => ?_) (fun c => ?_)
  · replace T := T.1 c
    refine ow_iconst (v := (-1)) (by decide) d_Mo_see_17 ?_
    exact ow_iret d_Mo_see_18 rfl T
  · replace T := T.2 c
    refine ow_aload_n 0 rfl d_Mo_see_8 ?_
    refine ow_gR (a := 71) 170 d_Mo_see_9 rfl rfl (by decide) rfl ⟨rfl, hR 70 1 (by decide)⟩ ?_
    refine ow_iload_n 1 rfl d_Mo_see_12 ?_
    obtain ⟨cI, T⟩ := T
    refine ow_hiaload d_Mo_see_13 (by decide) rfl rfl cI ?_
    refine ow_goto (tgt := 18) d_Mo_see_14 (by decide) ?_
    exact ow_iret d_Mo_see_18 rfl T
set_option maxRecDepth 4000 in
theorem t_Mo_isSmall {d : Nat} {I : Nat → Nat → Int32} {J : Nat → Nat → Int64} {R : Nat → Nat → Option Nat} {Q : Option Value → ow_H → Prop} {p1 : Int32}  (hR : ow_RF R) (T : ((p1 < 97 → Q (some (.int 0)) (85, I, J, R)) ∧ (¬ p1 < 97 → ((122 < p1 → Q (some (.int 0)) (85, I, J, R)) ∧ (¬ 122 < p1 → Q (some (.int 1)) (85, I, J, R)))))) : ow_AM M_Mo_isSmall (d + 1) [.int p1] (85, I, J, R) Q := by
  refine ow_enter (by decide) (Nat.le_of_ble_eq_true rfl) ?_
  show ow_AW ow_Y0 (ow_Z Q) M_Mo_isSmall (d + 1) 0 0 0 [(0, .int p1)] [] (85, I, J, R) 0 0
  refine ow_iload_n 0 rfl d_Mo_isSmall_0 ?_
  refine ow_bipush (v := 97) (by decide) d_Mo_isSmall_1 ?_
  refine ow_icmp_lt (tgt := 16) d_Mo_isSmall_3 (by decide) (fun c => ?_) (fun c => ?_)
  · replace T := T.1 c
    refine ow_iconst (v := 0) (by decide) d_Mo_isSmall_16 ?_
    exact ow_zret d_Mo_isSmall_17 rfl (by decide) T
  · replace T := T.2 c
    refine ow_iload_n 0 rfl d_Mo_isSmall_6 ?_
    refine ow_bipush (v := 122) (by decide) d_Mo_isSmall_7 ?_
    refine ow_icmp_gt (tgt := 16) d_Mo_isSmall_9 (by decide) (fun c => ?_) (fun c => ?_)
    · replace T := T.1 c
      refine ow_iconst (v := 0) (by decide) d_Mo_isSmall_16 ?_
      exact ow_zret d_Mo_isSmall_17 rfl (by decide) T
    · replace T := T.2 c
      refine ow_iconst (v := 1) (by decide) d_Mo_isSmall_12 ?_
      refine ow_goto (tgt := 17) d_Mo_isSmall_13 (by decide) ?_
      exact ow_zret d_Mo_isSmall_17 rfl (by decide) T
set_option maxRecDepth 4000 in
theorem t_Mo_isDigit {d : Nat} {I : Nat → Nat → Int32} {J : Nat → Nat → Int64} {R : Nat → Nat → Option Nat} {Q : Option Value → ow_H → Prop} {p1 : Int32}  (hR : ow_RF R) (T : ((p1 < 48 → Q (some (.int 0)) (85, I, J, R)) ∧ (¬ p1 < 48 → ((57 < p1 → Q (some (.int 0)) (85, I, J, R)) ∧ (¬ 57 < p1 → Q (some (.int 1)) (85, I, J, R)))))) : ow_AM M_Mo_isDigit (d + 1) [.int p1] (85, I, J, R) Q := by
  refine ow_enter (by decide) (Nat.le_of_ble_eq_true rfl) ?_
  show ow_AW ow_Y0 (ow_Z Q) M_Mo_isDigit (d + 1) 0 0 0 [(0, .int p1)] [] (85, I, J, R) 0 0
  refine ow_iload_n 0 rfl d_Mo_isDigit_0 ?_
  refine ow_bipush (v := 48) (by decide) d_Mo_isDigit_1 ?_
  refine ow_icmp_lt (tgt := 16) d_Mo_isDigit_3 (by decide) (fun c => ?_) (fun c => ?_)
  · replace T := T.1 c
    refine ow_iconst (v := 0) (by decide) d_Mo_isDigit_16 ?_
    exact ow_zret d_Mo_isDigit_17 rfl (by decide) T
  · replace T := T.2 c
    refine ow_iload_n 0 rfl d_Mo_isDigit_6 ?_
    refine ow_bipush (v := 57) (by decide) d_Mo_isDigit_7 ?_
    refine ow_icmp_gt (tgt := 16) d_Mo_isDigit_9 (by decide) (fun c => ?_) (fun c => ?_)
    · replace T := T.1 c
      refine ow_iconst (v := 0) (by decide) d_Mo_isDigit_16 ?_
      exact ow_zret d_Mo_isDigit_17 rfl (by decide) T
    · replace T := T.2 c
      refine ow_iconst (v := 1) (by decide) d_Mo_isDigit_12 ?_
      refine ow_goto (tgt := 17) d_Mo_isDigit_13 (by decide) ?_
      exact ow_zret d_Mo_isDigit_17 rfl (by decide) T
set_option maxRecDepth 4000 in
theorem t_Mo_next_5 {d : Nat} {I : Nat → Nat → Int32} {J : Nat → Nat → Int64} {R : Nat → Nat → Option Nat} {Q : Option Value → ow_H → Prop}  {v1 : Int32}  (hR : ow_RF R) (T : (ow_AM M_Mo_see d [.ref 70, .int v1] (85, I, J, R) (fun r h' => ∃ (r1 : Int32) (I1 : Nat → Nat → Int32) (J1 : Nat → Nat → Int64) (R1 : Nat → Nat → Option Nat), r = some (.int r1) ∧ h' = (85, I1, J1, R1) ∧ ow_RF R1 ∧ ((¬ r1 = 32 → (∀ (I2 : Nat → Nat → Int32), I2 = ow_u I1 70 4 v1 → (ow_AM M_Mo_see d [.ref 70, .int v1] (85, I2, J1, R1) (fun r h' => ∃ (r3 : Int32) (I3 : Nat → Nat → Int32) (J3 : Nat → Nat → Int64) (R3 : Nat → Nat → Option Nat), r = some (.int r3) ∧ h' = (85, I3, J3, R3) ∧ ow_RF R3 ∧ (∀ (I4 : Nat → Nat → Int32), I4 = ow_u I3 70 8 0 → (∀ (I5 : Nat → Nat → Int32), I5 = ow_u I4 70 7 0 → ((¬ r3 = (-1) → (ow_AM M_Mo_isSmall d [.int r3] (85, I5, J3, R3) (fun r h' => ∃ (r6 : Int32) (I6 : Nat → Nat → Int32) (J6 : Nat → Nat → Int64) (R6 : Nat → Nat → Option Nat), r = some (.int r6) ∧ h' = (85, I6, J6, R6) ∧ ow_RF R6 ∧ ((r6 = 0 → (ow_AM M_Mo_isDigit d [.int r3] (85, I6, J6, R6) (fun r h' => ∃ (r7 : Int32) (I7 : Nat → Nat → Int32) (J7 : Nat → Nat → Int64) (R7 : Nat → Nat → Option Nat), r = some (.int r7) ∧ h' = (85, I7, J7, R7) ∧ ow_RF R7 ∧ ((r7 = 0 → (∀ (I8 : Nat → Nat → Int32), I8 = ow_u I7 70 5 (v1 + 1) → ((¬ r3 = 59 → (∀ (I9 : Nat → Nat → Int32), I9 = ow_u I8 70 6 1 → Q none (85, I9, J7, R7))) ∧ (r3 = 59 → (∀ (I10 : Nat → Nat → Int32), I10 = ow_u I8 70 6 r3 → Q none (85, I10, J7, R7)))))) ∧ (¬ r7 = 0 → ow_AW ow_Y0 (ow_Z Q) M_Mo_next (d + 1) 0 0 152 [(0, .ref 70), (1, .int v1), (3, .int 0)] [] (85, I7, J7, R7) 0 0))))) ∧ (¬ r6 = 0 → ow_AW ow_Y0 (ow_Z Q) M_Mo_next (d + 1) 0 0 67 [(0, .ref 70), (1, .int v1)] [] (85, I6, J6, R6) 0 0))))) ∧ (r3 = (-1) → (∀ (I11 : Nat → Nat → Int32), I11 = ow_u I5 70 6 0 → (∀ (I12 : Nat → Nat → Int32), I12 = ow_u I11 70 5 v1 → Q none (85, I12, J3, R3))))))))))) ∧ (r1 = 32 → ow_AW ow_Y0 (ow_Z Q) M_Mo_next (d + 1) 0 0 5 [(0, .ref 70), (1, .int (v1 + 1))] [] (85, I1, J1, R1) 0 0))))) : ow_AW ow_Y0 (ow_Z Q) M_Mo_next (d + 1) 0 0 5 [(0, .ref 70), (1, .int v1)] [] (85, I, J, R) 0 0 := by
  refine ow_aload_n 0 rfl d_Mo_next_5 ?_
  refine ow_iload_n 1 rfl d_Mo_next_6 ?_
  refine ow_callV (b := 70) (cq := 12) (As := [.int v1]) (rest := []) (d2 := d) d_Mo_next_7 l_Mo_68 v_Mo_see (show 70 < 85 by decide) rfl (by decide) rfl (Nat.le_of_ble_eq_true rfl) (Nat.le_refl _) ⟨Nat.le_refl _, Nat.le_refl _⟩ (ow_mono T ?_)
  rintro r h' ⟨r1, I1, J1, R1, rfl, rfl, hR1, T⟩
  show ow_AW ow_Y0 (ow_Z Q) M_Mo_next (d + 1) 0 0 10 [(0, .ref 70), (1, .int v1)] [.int r1] (85, I1, J1, R1) 0 0
  refine ow_bipush (v := 32) (by decide) d_Mo_next_10 ?_
  refine ow_icmp_ne (tgt := 21) d_Mo_next_12 (by decide) (fun c => ?_) (fun c => ?_)
  · replace T := T.1 c
    refine ow_aload_n 0 rfl d_Mo_next_21 ?_
    refine ow_iload_n 1 rfl d_Mo_next_22 ?_
    refine ow_pI 173 d_Mo_next_23 rfl rfl (by decide) rfl rfl rfl ?_
    obtain ⟨I2, eI2⟩ : ∃ uu, uu = ow_u I1 70 4 v1 := ⟨_, rfl⟩
    replace T := T I2 eI2
    rw [← eI2]
    refine ow_aload_n 0 rfl d_Mo_next_26 ?_
    refine ow_iload_n 1 rfl d_Mo_next_27 ?_
    refine ow_callV (b := 70) (cq := 12) (As := [.int v1]) (rest := []) (d2 := d) d_Mo_next_28 l_Mo_68 v_Mo_see (show 70 < 85 by decide) rfl (by decide) rfl (Nat.le_of_ble_eq_true rfl) (Nat.le_refl _) ⟨Nat.le_refl _, Nat.le_refl _⟩ (ow_mono T ?_)
    rintro r h' ⟨r3, I3, J3, R3, rfl, rfl, hR3, T⟩
    show ow_AW ow_Y0 (ow_Z Q) M_Mo_next (d + 1) 0 0 31 [(0, .ref 70), (1, .int v1)] [.int r3] (85, I3, J3, R3) 0 0
    refine ow_istore_n (ls2 := [(2, .int r3), (0, .ref 70), (1, .int v1)]) d_Mo_next_31 (by decide) rfl ?_
    refine ow_aload_n 1 rfl d_Mo_next_32 ?_
    refine ow_iconst (v := 0) (by decide) d_Mo_next_33 ?_
    refine ow_pI 177 d_Mo_next_34 rfl rfl (by decide) rfl rfl rfl ?_
    obtain ⟨I4, eI4⟩ : ∃ uu, uu = ow_u I3 70 8 0 := ⟨_, rfl⟩
    replace T := T I4 eI4
    rw [← eI4]
    refine ow_aload_n 1 rfl d_Mo_next_37 ?_
    refine ow_iconst (v := 0) (by decide) d_Mo_next_38 ?_
    refine ow_pI 176 d_Mo_next_39 rfl rfl (by decide) rfl rfl rfl ?_
    obtain ⟨I5, eI5⟩ : ∃ uu, uu = ow_u I4 70 7 0 := ⟨_, rfl⟩
    replace T := T I5 eI5
    rw [← eI5]
    refine ow_iload_n 0 rfl d_Mo_next_42 ?_
    refine ow_iconst (v := (-1)) (by decide) d_Mo_next_43 ?_
    refine ow_icmp_ne (tgt := 60) d_Mo_next_44 (by decide) (fun c => ?_) (fun c => ?_)
    · replace T := T.1 c
      refine ow_iload_n 0 rfl d_Mo_next_60 ?_
      refine ow_callS (As := [.int r3]) (rest := []) (d2 := d) d_Mo_next_61 l_Mo_84 v_Mo_isSmall (Nat.le_of_ble_eq_true rfl) (Nat.le_refl _) ⟨Nat.le_refl _, Nat.le_refl _⟩ (ow_mono T ?_)
      rintro r h' ⟨r6, I6, J6, R6, rfl, rfl, hR6, T⟩
      show ow_AW ow_Y0 (ow_Z Q) M_Mo_next (d + 1) 0 0 64 [(2, .int r3), (0, .ref 70), (1, .int v1)] [.int r6] (85, I6, J6, R6) 0 0
      refine ow_if_eq (tgt := 143) d_Mo_next_64 (by decide) (fun c => ?_) (fun c => ?_)
      · replace T := T.1 c
        refine ow_iload_n 0 rfl d_Mo_next_143 ?_
        refine ow_callS (As := [.int r3]) (rest := []) (d2 := d) d_Mo_next_144 l_Mo_88 v_Mo_isDigit (Nat.le_of_ble_eq_true rfl) (Nat.le_refl _) ⟨Nat.le_refl _, Nat.le_refl _⟩ (ow_mono T ?_)
        rintro r h' ⟨r7, I7, J7, R7, rfl, rfl, hR7, T⟩
        show ow_AW ow_Y0 (ow_Z Q) M_Mo_next (d + 1) 0 0 147 [(2, .int r3), (0, .ref 70), (1, .int v1)] [.int r7] (85, I7, J7, R7) 0 0
        refine ow_if_eq (tgt := 219) d_Mo_next_147 (by decide) (fun c => ?_) (fun c => ?_)
        · replace T := T.1 c
          refine ow_aload_n 1 rfl d_Mo_next_219 ?_
          refine ow_iload_n 2 rfl d_Mo_next_220 ?_
          refine ow_iconst (v := 1) (by decide) d_Mo_next_221 ?_
          refine ow_iadd d_Mo_next_222 ?_
          refine ow_pI 174 d_Mo_next_223 rfl rfl (by decide) rfl rfl rfl ?_
          obtain ⟨I8, eI8⟩ : ∃ uu, uu = ow_u I7 70 5 (v1 + 1) := ⟨_, rfl⟩
          replace T := T I8 eI8
          rw [← eI8]
          refine ow_aload_n 1 rfl d_Mo_next_226 ?_
          refine ow_iload_n 0 rfl d_Mo_next_227 ?_
          refine ow_bipush (v := 59) (by decide) d_Mo_next_228 ?_
          refine ow_icmp_ne (tgt := 237) d_Mo_next_230 (by decide) (fun c => ?_) (fun c => ?_)
          · replace T := T.1 c
            refine ow_iconst (v := 1) (by decide) d_Mo_next_237 ?_
            refine ow_pI 175 d_Mo_next_238 rfl rfl (by decide) rfl rfl rfl ?_
            obtain ⟨I9, eI9⟩ : ∃ uu, uu = ow_u I8 70 6 1 := ⟨_, rfl⟩
            replace T := T I9 eI9
            rw [← eI9]
            exact ow_vret d_Mo_next_241 rfl T
          · replace T := T.2 c
            refine ow_iload_n 0 rfl d_Mo_next_233 ?_
            refine ow_goto (tgt := 238) d_Mo_next_234 (by decide) ?_
            refine ow_pI 175 d_Mo_next_238 rfl rfl (by decide) rfl rfl rfl ?_
            obtain ⟨I10, eI10⟩ : ∃ uu, uu = ow_u I8 70 6 r3 := ⟨_, rfl⟩
            replace T := T I10 eI10
            rw [← eI10]
            exact ow_vret d_Mo_next_241 rfl T
        · replace T := T.2 c
          refine ow_iconst (v := 0) (by decide) d_Mo_next_150 ?_
          refine ow_istore_n (ls2 := [(3, .int 0), (2, .int r3), (0, .ref 70), (1, .int v1)]) d_Mo_next_151 (by decide) rfl ?_
          refine ow_sub [2, 3, 0] rfl ?_
          exact T
      · replace T := T.2 c
        refine ow_sub [1, 2] rfl ?_
        exact T
    · replace T := T.2 c
      refine ow_aload_n 1 rfl d_Mo_next_47 ?_
      refine ow_iconst (v := 0) (by decide) d_Mo_next_48 ?_
      refine ow_pI 175 d_Mo_next_49 rfl rfl (by decide) rfl rfl rfl ?_
      obtain ⟨I11, eI11⟩ : ∃ uu, uu = ow_u I5 70 6 0 := ⟨_, rfl⟩
      replace T := T I11 eI11
      rw [← eI11]
      refine ow_aload_n 1 rfl d_Mo_next_52 ?_
      refine ow_iload_n 2 rfl d_Mo_next_53 ?_
      refine ow_pI 174 d_Mo_next_54 rfl rfl (by decide) rfl rfl rfl ?_
      obtain ⟨I12, eI12⟩ : ∃ uu, uu = ow_u I11 70 5 v1 := ⟨_, rfl⟩
      replace T := T I12 eI12
      rw [← eI12]
      refine ow_goto (tgt := 241) d_Mo_next_57 (by decide) ?_
      exact ow_vret d_Mo_next_241 rfl T
  · replace T := T.2 c
    refine ow_iinc 1 (v := (v1 + 1)) (ls2 := [(1, .int (v1 + 1)), (0, .ref 70)]) d_Mo_next_15 rfl rfl (by decide) rfl ?_
    refine ow_goto (tgt := 5) d_Mo_next_18 (by decide) ?_
    refine ow_sub [1, 0] rfl ?_
    exact T
set_option maxRecDepth 4000 in
theorem t_Mo_next_67 {d : Nat} {I : Nat → Nat → Int32} {J : Nat → Nat → Int64} {R : Nat → Nat → Option Nat} {Q : Option Value → ow_H → Prop}  {v1 : Int32}  (hR : ow_RF R) (T : (ow_AM M_Mo_see d [.ref 70, .int v1] (85, I, J, R) (fun r h' => ∃ (r13 : Int32) (I13 : Nat → Nat → Int32) (J13 : Nat → Nat → Int64) (R13 : Nat → Nat → Option Nat), r = some (.int r13) ∧ h' = (85, I13, J13, R13) ∧ ow_RF R13 ∧ (ow_AM M_Mo_isSmall d [.int r13] (85, I13, J13, R13) (fun r h' => ∃ (r14 : Int32) (I14 : Nat → Nat → Int32) (J14 : Nat → Nat → Int64) (R14 : Nat → Nat → Option Nat), r = some (.int r14) ∧ h' = (85, I14, J14, R14) ∧ ow_RF R14 ∧ ((r14 = 0 → (∀ (I15 : Nat → Nat → Int32), I15 = ow_u I14 70 5 v1 → (((I15 70 8) ≤ 8 → (∀ (I16 : Nat → Nat → Int32), I16 = ow_u I15 70 6 2 → Q none (85, I16, J14, R14))) ∧ (¬ (I15 70 8) ≤ 8 → (∀ (I17 : Nat → Nat → Int32), I17 = ow_u I15 70 6 1 → Q none (85, I17, J14, R14)))))) ∧ (¬ r14 = 0 → ((8 ≤ (I14 70 8) → (∀ (I18 : Nat → Nat → Int32), I18 = ow_u I14 70 8 ((I14 70 8) + 1) → ow_AW ow_Y0 (ow_Z Q) M_Mo_next (d + 1) 0 0 67 [(0, .ref 70), (1, .int (v1 + 1))] [] (85, I18, J14, R14) 0 0)) ∧ (¬ 8 ≤ (I14 70 8) → (ow_AM M_Mo_see d [.ref 70, .int v1] (85, I14, J14, R14) (fun r h' => ∃ (r19 : Int32) (I19 : Nat → Nat → Int32) (J19 : Nat → Nat → Int64) (R19 : Nat → Nat → Option Nat), r = some (.int r19) ∧ h' = (85, I19, J19, R19) ∧ ow_RF R19 ∧ (vp_in (I14 70 8) 8 ∧ (∀ (I20 : Nat → Nat → Int32), I20 = ow_u I19 72 ((I14 70 8).toNatClampNeg) r19 → (∀ (I21 : Nat → Nat → Int32), I21 = ow_u I20 70 8 ((I20 70 8) + 1) → ow_AW ow_Y0 (ow_Z Q) M_Mo_next (d + 1) 0 0 67 [(0, .ref 70), (1, .int (v1 + 1))] [] (85, I21, J19, R19) 0 0)))))))))))))) : ow_AW ow_Y0 (ow_Z Q) M_Mo_next (d + 1) 0 0 67 [(0, .ref 70), (1, .int v1)] [] (85, I, J, R) 0 0 := by
  refine ow_aload_n 0 rfl d_Mo_next_67 ?_
  refine ow_iload_n 1 rfl d_Mo_next_68 ?_
  refine ow_callV (b := 70) (cq := 12) (As := [.int v1]) (rest := []) (d2 := d) d_Mo_next_69 l_Mo_68 v_Mo_see (show 70 < 85 by decide) rfl (by decide) rfl (Nat.le_of_ble_eq_true rfl) (Nat.le_refl _) ⟨Nat.le_refl _, Nat.le_refl _⟩ (ow_mono T ?_)
  rintro r h' ⟨r13, I13, J13, R13, rfl, rfl, hR13, T⟩
  show ow_AW ow_Y0 (ow_Z Q) M_Mo_next (d + 1) 0 0 72 [(0, .ref 70), (1, .int v1)] [.int r13] (85, I13, J13, R13) 0 0
  refine ow_callS (As := [.int r13]) (rest := []) (d2 := d) d_Mo_next_72 l_Mo_84 v_Mo_isSmall (Nat.le_of_ble_eq_true rfl) (Nat.le_refl _) ⟨Nat.le_refl _, Nat.le_refl _⟩ (ow_mono T ?_)
  rintro r h' ⟨r14, I14, J14, R14, rfl, rfl, hR14, T⟩
  show ow_AW ow_Y0 (ow_Z Q) M_Mo_next (d + 1) 0 0 75 [(0, .ref 70), (1, .int v1)] [.int r14] (85, I14, J14, R14) 0 0
  refine ow_if_eq (tgt := 117) d_Mo_next_75 (by decide) (fun c => ?_) (fun c => ?_)
  · replace T := T.1 c
    refine ow_aload_n 0 rfl d_Mo_next_117 ?_
    refine ow_iload_n 1 rfl d_Mo_next_118 ?_
    refine ow_pI 174 d_Mo_next_119 rfl rfl (by decide) rfl rfl rfl ?_
    obtain ⟨I15, eI15⟩ : ∃ uu, uu = ow_u I14 70 5 v1 := ⟨_, rfl⟩
    replace T := T I15 eI15
    rw [← eI15]
    refine ow_aload_n 0 rfl d_Mo_next_122 ?_
    refine ow_aload_n 0 rfl d_Mo_next_123 ?_
    refine ow_gI 177 d_Mo_next_124 rfl rfl (by decide) rfl (Or.inl rfl) ?_
    refine ow_bipush (v := 8) (by decide) d_Mo_next_127 ?_
    refine ow_icmp_le (tgt := 136) d_Mo_next_129 (by decide) (fun c => ?_) (fun c => ?_)
    · replace T := T.1 c
      refine ow_iconst (v := 2) (by decide) d_Mo_next_136 ?_
      refine ow_pI 175 d_Mo_next_137 rfl rfl (by decide) rfl rfl rfl ?_
      obtain ⟨I16, eI16⟩ : ∃ uu, uu = ow_u I15 70 6 2 := ⟨_, rfl⟩
      replace T := T I16 eI16
      rw [← eI16]
      refine ow_goto (tgt := 241) d_Mo_next_140 (by decide) ?_
      exact ow_vret d_Mo_next_241 rfl T
    · replace T := T.2 c
      refine ow_iconst (v := 1) (by decide) d_Mo_next_132 ?_
      refine ow_goto (tgt := 137) d_Mo_next_133 (by decide) ?_
      refine ow_pI 175 d_Mo_next_137 rfl rfl (by decide) rfl rfl rfl ?_
      obtain ⟨I17, eI17⟩ : ∃ uu, uu = ow_u I15 70 6 1 := ⟨_, rfl⟩
      replace T := T I17 eI17
      rw [← eI17]
      refine ow_goto (tgt := 241) d_Mo_next_140 (by decide) ?_
      exact ow_vret d_Mo_next_241 rfl T
  · replace T := T.2 c
    refine ow_aload_n 0 rfl d_Mo_next_78 ?_
    refine ow_gI 177 d_Mo_next_79 rfl rfl (by decide) rfl (Or.inl rfl) ?_
    refine ow_bipush (v := 8) (by decide) d_Mo_next_82 ?_
    refine ow_icmp_ge (tgt := 101) d_Mo_next_84 (by decide) (fun c => ?_) (fun c => ?_)
    · replace T := T.1 c
      refine ow_aload_n 0 rfl d_Mo_next_101 ?_
      refine ow_dup rfl d_Mo_next_102 ?_
      refine ow_gI 177 d_Mo_next_103 rfl rfl (by decide) rfl (Or.inl rfl) ?_
      refine ow_iconst (v := 1) (by decide) d_Mo_next_106 ?_
      refine ow_iadd d_Mo_next_107 ?_
      refine ow_pI 177 d_Mo_next_108 rfl rfl (by decide) rfl rfl rfl ?_
      obtain ⟨I18, eI18⟩ : ∃ uu, uu = ow_u I14 70 8 ((I14 70 8) + 1) := ⟨_, rfl⟩
      replace T := T I18 eI18
      rw [← eI18]
      refine ow_iinc 1 (v := (v1 + 1)) (ls2 := [(1, .int (v1 + 1)), (0, .ref 70)]) d_Mo_next_111 rfl rfl (by decide) rfl ?_
      refine ow_goto (tgt := 67) d_Mo_next_114 (by decide) ?_
      refine ow_sub [1, 0] rfl ?_
      exact T
    · replace T := T.2 c
      refine ow_aload_n 0 rfl d_Mo_next_87 ?_
      refine ow_gR (a := 72) 181 d_Mo_next_88 rfl rfl (by decide) rfl ⟨rfl, hR14 70 12 (by decide)⟩ ?_
      refine ow_aload_n 0 rfl d_Mo_next_91 ?_
      refine ow_gI 177 d_Mo_next_92 rfl rfl (by decide) rfl (Or.inl rfl) ?_
      refine ow_aload_n 0 rfl d_Mo_next_95 ?_
      refine ow_iload_n 1 rfl d_Mo_next_96 ?_
      refine ow_callV (b := 70) (cq := 12) (As := [.int v1]) (rest := [.int (I14 70 8), .ref 72]) (d2 := d) d_Mo_next_97 l_Mo_68 v_Mo_see (show 70 < 85 by decide) rfl (by decide) rfl (Nat.le_of_ble_eq_true rfl) (Nat.le_refl _) ⟨Nat.le_refl _, Nat.le_refl _⟩ (ow_mono T ?_)
      rintro r h' ⟨r19, I19, J19, R19, rfl, rfl, hR19, T⟩
      show ow_AW ow_Y0 (ow_Z Q) M_Mo_next (d + 1) 0 0 100 [(0, .ref 70), (1, .int v1)] [.int r19, .int (I14 70 8), .ref 72] (85, I19, J19, R19) 0 0
      obtain ⟨cI, T⟩ := T
      refine ow_hiastore d_Mo_next_100 (by decide) rfl rfl cI ?_
      obtain ⟨I20, eI20⟩ : ∃ uu, uu = ow_u I19 72 ((I14 70 8).toNatClampNeg) r19 := ⟨_, rfl⟩
      replace T := T I20 eI20
      rw [← eI20]
      refine ow_aload_n 0 rfl d_Mo_next_101 ?_
      refine ow_dup rfl d_Mo_next_102 ?_
      refine ow_gI 177 d_Mo_next_103 rfl rfl (by decide) rfl (Or.inl rfl) ?_
      refine ow_iconst (v := 1) (by decide) d_Mo_next_106 ?_
      refine ow_iadd d_Mo_next_107 ?_
      refine ow_pI 177 d_Mo_next_108 rfl rfl (by decide) rfl rfl rfl ?_
      obtain ⟨I21, eI21⟩ : ∃ uu, uu = ow_u I20 70 8 ((I20 70 8) + 1) := ⟨_, rfl⟩
      replace T := T I21 eI21
      rw [← eI21]
      refine ow_iinc 1 (v := (v1 + 1)) (ls2 := [(1, .int (v1 + 1)), (0, .ref 70)]) d_Mo_next_111 rfl rfl (by decide) rfl ?_
      refine ow_goto (tgt := 67) d_Mo_next_114 (by decide) ?_
      refine ow_sub [1, 0] rfl ?_
      exact T
set_option maxRecDepth 4000 in
theorem t_Mo_next_152 {d : Nat} {I : Nat → Nat → Int32} {J : Nat → Nat → Int64} {R : Nat → Nat → Option Nat} {Q : Option Value → ow_H → Prop}  {v1 : Int32} {v3 : Int32}  (hR : ow_RF R) (T : (ow_AM M_Mo_see d [.ref 70, .int v1] (85, I, J, R) (fun r h' => ∃ (r22 : Int32) (I22 : Nat → Nat → Int32) (J22 : Nat → Nat → Int64) (R22 : Nat → Nat → Option Nat), r = some (.int r22) ∧ h' = (85, I22, J22, R22) ∧ ow_RF R22 ∧ (ow_AM M_Mo_isDigit d [.int r22] (85, I22, J22, R22) (fun r h' => ∃ (r23 : Int32) (I23 : Nat → Nat → Int32) (J23 : Nat → Nat → Int64) (R23 : Nat → Nat → Option Nat), r = some (.int r23) ∧ h' = (85, I23, J23, R23) ∧ ow_RF R23 ∧ ((r23 = 0 → (∀ (I24 : Nat → Nat → Int32), I24 = ow_u I23 70 5 v1 → ((v3 ≤ 3 → (∀ (I25 : Nat → Nat → Int32), I25 = ow_u I24 70 6 3 → Q none (85, I25, J23, R23))) ∧ (¬ v3 ≤ 3 → (∀ (I26 : Nat → Nat → Int32), I26 = ow_u I24 70 6 1 → Q none (85, I26, J23, R23)))))) ∧ (¬ r23 = 0 → ((3 ≤ v3 → ow_AW ow_Y0 (ow_Z Q) M_Mo_next (d + 1) 0 0 152 [(0, .ref 70), (1, .int (v1 + 1)), (3, .int (v3 + 1))] [] (85, I23, J23, R23) 0 0) ∧ (¬ 3 ≤ v3 → (ow_AM M_Mo_see d [.ref 70, .int v1] (85, I23, J23, R23) (fun r h' => ∃ (r27 : Int32) (I27 : Nat → Nat → Int32) (J27 : Nat → Nat → Int64) (R27 : Nat → Nat → Option Nat), r = some (.int r27) ∧ h' = (85, I27, J27, R27) ∧ ow_RF R27 ∧ (∀ (I28 : Nat → Nat → Int32), I28 = ow_u I27 70 7 (((10 * (I23 70 7)) + r27) - 48) → ow_AW ow_Y0 (ow_Z Q) M_Mo_next (d + 1) 0 0 152 [(0, .ref 70), (1, .int (v1 + 1)), (3, .int (v3 + 1))] [] (85, I28, J27, R27) 0 0)))))))))))) : ow_AW ow_Y0 (ow_Z Q) M_Mo_next (d + 1) 0 0 152 [(0, .ref 70), (1, .int v1), (3, .int v3)] [] (85, I, J, R) 0 0 := by
  refine ow_aload_n 0 rfl d_Mo_next_152 ?_
  refine ow_iload_n 1 rfl d_Mo_next_153 ?_
  refine ow_callV (b := 70) (cq := 12) (As := [.int v1]) (rest := []) (d2 := d) d_Mo_next_154 l_Mo_68 v_Mo_see (show 70 < 85 by decide) rfl (by decide) rfl (Nat.le_of_ble_eq_true rfl) (Nat.le_refl _) ⟨Nat.le_refl _, Nat.le_refl _⟩ (ow_mono T ?_)
  rintro r h' ⟨r22, I22, J22, R22, rfl, rfl, hR22, T⟩
  show ow_AW ow_Y0 (ow_Z Q) M_Mo_next (d + 1) 0 0 157 [(0, .ref 70), (1, .int v1), (3, .int v3)] [.int r22] (85, I22, J22, R22) 0 0
  refine ow_callS (As := [.int r22]) (rest := []) (d2 := d) d_Mo_next_157 l_Mo_88 v_Mo_isDigit (Nat.le_of_ble_eq_true rfl) (Nat.le_refl _) ⟨Nat.le_refl _, Nat.le_refl _⟩ (ow_mono T ?_)
  rintro r h' ⟨r23, I23, J23, R23, rfl, rfl, hR23, T⟩
  show ow_AW ow_Y0 (ow_Z Q) M_Mo_next (d + 1) 0 0 160 [(0, .ref 70), (1, .int v1), (3, .int v3)] [.int r23] (85, I23, J23, R23) 0 0
  refine ow_if_eq (tgt := 197) d_Mo_next_160 (by decide) (fun c => ?_) (fun c => ?_)
  · replace T := T.1 c
    refine ow_aload_n 0 rfl d_Mo_next_197 ?_
    refine ow_iload_n 1 rfl d_Mo_next_198 ?_
    refine ow_pI 174 d_Mo_next_199 rfl rfl (by decide) rfl rfl rfl ?_
    obtain ⟨I24, eI24⟩ : ∃ uu, uu = ow_u I23 70 5 v1 := ⟨_, rfl⟩
    replace T := T I24 eI24
    rw [← eI24]
    refine ow_aload_n 0 rfl d_Mo_next_202 ?_
    refine ow_iload_n 2 rfl d_Mo_next_203 ?_
    refine ow_iconst (v := 3) (by decide) d_Mo_next_204 ?_
    refine ow_icmp_le (tgt := 212) d_Mo_next_205 (by decide) (fun c => ?_) (fun c => ?_)
    · replace T := T.1 c
      refine ow_iconst (v := 3) (by decide) d_Mo_next_212 ?_
      refine ow_pI 175 d_Mo_next_213 rfl rfl (by decide) rfl rfl rfl ?_
      obtain ⟨I25, eI25⟩ : ∃ uu, uu = ow_u I24 70 6 3 := ⟨_, rfl⟩
      replace T := T I25 eI25
      rw [← eI25]
      refine ow_goto (tgt := 241) d_Mo_next_216 (by decide) ?_
      exact ow_vret d_Mo_next_241 rfl T
    · replace T := T.2 c
      refine ow_iconst (v := 1) (by decide) d_Mo_next_208 ?_
      refine ow_goto (tgt := 213) d_Mo_next_209 (by decide) ?_
      refine ow_pI 175 d_Mo_next_213 rfl rfl (by decide) rfl rfl rfl ?_
      obtain ⟨I26, eI26⟩ : ∃ uu, uu = ow_u I24 70 6 1 := ⟨_, rfl⟩
      replace T := T I26 eI26
      rw [← eI26]
      refine ow_goto (tgt := 241) d_Mo_next_216 (by decide) ?_
      exact ow_vret d_Mo_next_241 rfl T
  · replace T := T.2 c
    refine ow_iload_n 2 rfl d_Mo_next_163 ?_
    refine ow_iconst (v := 3) (by decide) d_Mo_next_164 ?_
    refine ow_icmp_ge (tgt := 188) d_Mo_next_165 (by decide) (fun c => ?_) (fun c => ?_)
    · replace T := T.1 c
      refine ow_iinc 2 (v := (v3 + 1)) (ls2 := [(3, .int (v3 + 1)), (0, .ref 70), (1, .int v1)]) d_Mo_next_188 rfl rfl (by decide) rfl ?_
      refine ow_iinc 2 (v := (v1 + 1)) (ls2 := [(1, .int (v1 + 1)), (3, .int (v3 + 1)), (0, .ref 70)]) d_Mo_next_191 rfl rfl (by decide) rfl ?_
      refine ow_goto (tgt := 152) d_Mo_next_194 (by decide) ?_
      refine ow_sub [2, 0, 1] rfl ?_
      exact T
    · replace T := T.2 c
      refine ow_aload_n 0 rfl d_Mo_next_168 ?_
      refine ow_bipush (v := 10) (by decide) d_Mo_next_169 ?_
      refine ow_aload_n 0 rfl d_Mo_next_171 ?_
      refine ow_gI 176 d_Mo_next_172 rfl rfl (by decide) rfl (Or.inl rfl) ?_
      refine ow_imul d_Mo_next_175 ?_
      refine ow_aload_n 0 rfl d_Mo_next_176 ?_
      refine ow_iload_n 1 rfl d_Mo_next_177 ?_
      refine ow_callV (b := 70) (cq := 12) (As := [.int v1]) (rest := [.int (10 * (I23 70 7)), .ref 70]) (d2 := d) d_Mo_next_178 l_Mo_68 v_Mo_see (show 70 < 85 by decide) rfl (by decide) rfl (Nat.le_of_ble_eq_true rfl) (Nat.le_refl _) ⟨Nat.le_refl _, Nat.le_refl _⟩ (ow_mono T ?_)
      rintro r h' ⟨r27, I27, J27, R27, rfl, rfl, hR27, T⟩
      show ow_AW ow_Y0 (ow_Z Q) M_Mo_next (d + 1) 0 0 181 [(0, .ref 70), (1, .int v1), (3, .int v3)] [.int r27, .int (10 * (I23 70 7)), .ref 70] (85, I27, J27, R27) 0 0
      refine ow_iadd d_Mo_next_181 ?_
      refine ow_bipush (v := 48) (by decide) d_Mo_next_182 ?_
      refine ow_isub d_Mo_next_184 ?_
      refine ow_pI 176 d_Mo_next_185 rfl rfl (by decide) rfl rfl rfl ?_
      obtain ⟨I28, eI28⟩ : ∃ uu, uu = ow_u I27 70 7 (((10 * (I23 70 7)) + r27) - 48) := ⟨_, rfl⟩
      replace T := T I28 eI28
      rw [← eI28]
      refine ow_iinc 2 (v := (v3 + 1)) (ls2 := [(3, .int (v3 + 1)), (0, .ref 70), (1, .int v1)]) d_Mo_next_188 rfl rfl (by decide) rfl ?_
      refine ow_iinc 2 (v := (v1 + 1)) (ls2 := [(1, .int (v1 + 1)), (3, .int (v3 + 1)), (0, .ref 70)]) d_Mo_next_191 rfl rfl (by decide) rfl ?_
      refine ow_goto (tgt := 152) d_Mo_next_194 (by decide) ?_
      refine ow_sub [2, 0, 1] rfl ?_
      exact T
set_option maxRecDepth 4000 in
theorem t_Mo_next {d : Nat} {I : Nat → Nat → Int32} {J : Nat → Nat → Int64} {R : Nat → Nat → Option Nat} {Q : Option Value → ow_H → Prop}   (hR : ow_RF R) (T : ow_AW ow_Y0 (ow_Z Q) M_Mo_next (d + 1) 0 0 5 [(0, .ref 70), (1, .int (I 70 5))] [] (85, I, J, R) 0 0) : ow_AM M_Mo_next (d + 1) [.ref 70] (85, I, J, R) Q := by
  refine ow_enter (by decide) (Nat.le_of_ble_eq_true rfl) ?_
  show ow_AW ow_Y0 (ow_Z Q) M_Mo_next (d + 1) 0 0 0 [(0, .ref 70)] [] (85, I, J, R) 0 0
  refine ow_aload_n 0 rfl d_Mo_next_0 ?_
  refine ow_gI 174 d_Mo_next_1 rfl rfl (by decide) rfl (Or.inl rfl) ?_
  refine ow_istore_n (ls2 := [(1, .int (I 70 5)), (0, .ref 70)]) d_Mo_next_4 (by decide) rfl ?_
  refine ow_sub [1, 0] rfl ?_
  exact T
set_option maxRecDepth 4000 in
theorem t_Mo_wrong {d : Nat} {I : Nat → Nat → Int32} {J : Nat → Nat → Int64} {R : Nat → Nat → Option Nat} {Q : Option Value → ow_H → Prop} {p1 : Int32} {p2 : Int32}  (hR : ow_RF R) (T : (((I 70 13) = 0 → (∀ (I4 : Nat → Nat → Int32), I4 = ow_u I 70 13 1 → (∀ (I5 : Nat → Nat → Int32), I5 = ow_u I4 70 9 p1 → (∀ (I6 : Nat → Nat → Int32), I6 = ow_u I5 70 10 p2 → Q none (85, I6, J, R))))) ∧ (¬ (I 70 13) = 0 → Q none (85, I, J, R)))) : ow_AM M_Mo_wrong (d + 1) [.ref 70, .int p1, .int p2] (85, I, J, R) Q := by
  refine ow_enter (by decide) (Nat.le_of_ble_eq_true rfl) ?_
  show ow_AW ow_Y0 (ow_Z Q) M_Mo_wrong (d + 1) 0 0 0 [(0, .ref 70), (1, .int p1), (2, .int p2)] [] (85, I, J, R) 0 0
  refine ow_aload_n 0 rfl d_Mo_wrong_0 ?_
  refine ow_gI 182 d_Mo_wrong_1 rfl rfl (by decide) rfl (Or.inr rfl) ?_
  refine ow_if_eq (tgt := 8) d_Mo_wrong_4 (by decide) (fun c => ?_) (fun c => ?_)
  · replace T := T.1 c
    refine ow_aload_n 0 rfl d_Mo_wrong_8 ?_
    refine ow_iconst (v := 1) (by decide) d_Mo_wrong_9 ?_
    refine ow_pZ 182 d_Mo_wrong_10 rfl rfl (by decide) rfl ⟨rfl, by decide⟩ rfl ?_
    obtain ⟨I4, eI4⟩ : ∃ uu, uu = ow_u I 70 13 1 := ⟨_, rfl⟩
    replace T := T I4 eI4
    rw [← eI4]
    refine ow_aload_n 0 rfl d_Mo_wrong_13 ?_
    refine ow_iload_n 1 rfl d_Mo_wrong_14 ?_
    refine ow_pI 178 d_Mo_wrong_15 rfl rfl (by decide) rfl rfl rfl ?_
    obtain ⟨I5, eI5⟩ : ∃ uu, uu = ow_u I4 70 9 p1 := ⟨_, rfl⟩
    replace T := T I5 eI5
    rw [← eI5]
    refine ow_aload_n 0 rfl d_Mo_wrong_18 ?_
    refine ow_iload_n 2 rfl d_Mo_wrong_19 ?_
    refine ow_pI 179 d_Mo_wrong_20 rfl rfl (by decide) rfl rfl rfl ?_
    obtain ⟨I6, eI6⟩ : ∃ uu, uu = ow_u I5 70 10 p2 := ⟨_, rfl⟩
    replace T := T I6 eI6
    rw [← eI6]
    exact ow_vret d_Mo_wrong_23 rfl T
  · replace T := T.2 c
    exact ow_vret d_Mo_wrong_7 rfl T
set_option maxRecDepth 4000 in
theorem t_Mo_isWord_32 {d : Nat} {I : Nat → Nat → Int32} {J : Nat → Nat → Int64} {R : Nat → Nat → Option Nat} {Q : Option Value → ow_H → Prop} {i : Nat} {v2 : Int32} {v3 : Int32} (hi : i < ow_ns) (hR : ow_RF R) (T : (((I 70 8) ≤ v3 → ((v2 = 0 ∨ v2 = 1) ∧ Q (some (.int v2)) (85, I, J, R))) ∧ (¬ (I 70 8) ≤ v3 → ((v2 = 0 → ow_AW ow_Y0 (ow_Z Q) M_Mo_isWord (d + 1) 0 0 32 [(0, .ref 70), (1, .ref (1000 + i)), (2, .int 0), (3, .int (v3 + 1))] [] (85, I, J, R) 0 0) ∧ (¬ v2 = 0 → (vp_in v3 8 ∧ (ow_AM M_Str_charAt d [.ref (1000 + i), .int v3] (85, I, J, R) (fun r h' => ∃ (r2 : Int32) (I2 : Nat → Nat → Int32) (J2 : Nat → Nat → Int64) (R2 : Nat → Nat → Option Nat), r = some (.int r2) ∧ h' = (85, I2, J2, R2) ∧ ow_RF R2 ∧ ((¬ (I 72 v3.toNatClampNeg) = r2 → ow_AW ow_Y0 (ow_Z Q) M_Mo_isWord (d + 1) 0 0 32 [(0, .ref 70), (1, .ref (1000 + i)), (2, .int 0), (3, .int (v3 + 1))] [] (85, I2, J2, R2) 0 0) ∧ ((I 72 v3.toNatClampNeg) = r2 → ow_AW ow_Y0 (ow_Z Q) M_Mo_isWord (d + 1) 0 0 32 [(0, .ref 70), (1, .ref (1000 + i)), (2, .int 1), (3, .int (v3 + 1))] [] (85, I2, J2, R2) 0 0)))))))))) : ow_AW ow_Y0 (ow_Z Q) M_Mo_isWord (d + 1) 0 0 32 [(0, .ref 70), (1, .ref (1000 + i)), (2, .int v2), (3, .int v3)] [] (85, I, J, R) 0 0 := by
  refine ow_iload_n 3 rfl d_Mo_isWord_32 ?_
  refine ow_aload_n 0 rfl d_Mo_isWord_33 ?_
  refine ow_gI 177 d_Mo_isWord_34 rfl rfl (by decide) rfl (Or.inl rfl) ?_
  refine ow_icmp_ge (tgt := 70) d_Mo_isWord_37 (by decide) (fun c => ?_) (fun c => ?_)
  · replace T := T.1 c
    refine ow_iload_n 2 rfl d_Mo_isWord_70 ?_
    exact ow_zret d_Mo_isWord_71 rfl T.1 T.2
  · replace T := T.2 c
    refine ow_iload_n 2 rfl d_Mo_isWord_40 ?_
    refine ow_if_eq (tgt := 62) d_Mo_isWord_41 (by decide) (fun c => ?_) (fun c => ?_)
    · replace T := T.1 c
      refine ow_iconst (v := 0) (by decide) d_Mo_isWord_62 ?_
      refine ow_istore_n (ls2 := [(2, .int 0), (0, .ref 70), (1, .ref (1000 + i)), (3, .int v3)]) d_Mo_isWord_63 (by decide) rfl ?_
      refine ow_iinc 3 (v := (v3 + 1)) (ls2 := [(3, .int (v3 + 1)), (2, .int 0), (0, .ref 70), (1, .ref (1000 + i))]) d_Mo_isWord_64 rfl rfl (by decide) rfl ?_
      refine ow_goto (tgt := 32) d_Mo_isWord_67 (by decide) ?_
      refine ow_sub [2, 3, 1, 0] rfl ?_
      exact T
    · replace T := T.2 c
      refine ow_aload_n 0 rfl d_Mo_isWord_44 ?_
      refine ow_gR (a := 72) 181 d_Mo_isWord_45 rfl rfl (by decide) rfl ⟨rfl, hR 70 12 (by decide)⟩ ?_
      refine ow_iload_n 3 rfl d_Mo_isWord_48 ?_
      obtain ⟨cI, T⟩ := T
      refine ow_hiaload d_Mo_isWord_49 (by decide) rfl rfl cI ?_
      refine ow_aload_n 1 rfl d_Mo_isWord_50 ?_
      refine ow_iload_n 3 rfl d_Mo_isWord_51 ?_
      refine ow_callT (i := i) (As := [.int v3]) (rest := [.int (I 72 v3.toNatClampNeg)]) (d2 := d) d_Mo_isWord_52 l_Mo_104 v_Str_charAt hi rfl (Nat.le_of_ble_eq_true rfl) (Nat.le_refl _) ⟨Nat.le_refl _, Nat.le_refl _⟩ (ow_mono T ?_)
      rintro r h' ⟨r2, I2, J2, R2, rfl, rfl, hR2, T⟩
      show ow_AW ow_Y0 (ow_Z Q) M_Mo_isWord (d + 1) 0 0 55 [(0, .ref 70), (1, .ref (1000 + i)), (2, .int v2), (3, .int v3)] [.int r2, .int (I 72 v3.toNatClampNeg)] (85, I2, J2, R2) 0 0
      refine ow_icmp_ne (tgt := 62) d_Mo_isWord_55 (by decide) (fun c => ?_) (fun c => ?_)
      · replace T := T.1 c
        refine ow_iconst (v := 0) (by decide) d_Mo_isWord_62 ?_
        refine ow_istore_n (ls2 := [(2, .int 0), (0, .ref 70), (1, .ref (1000 + i)), (3, .int v3)]) d_Mo_isWord_63 (by decide) rfl ?_
        refine ow_iinc 3 (v := (v3 + 1)) (ls2 := [(3, .int (v3 + 1)), (2, .int 0), (0, .ref 70), (1, .ref (1000 + i))]) d_Mo_isWord_64 rfl rfl (by decide) rfl ?_
        refine ow_goto (tgt := 32) d_Mo_isWord_67 (by decide) ?_
        refine ow_sub [2, 3, 1, 0] rfl ?_
        exact T
      · replace T := T.2 c
        refine ow_iconst (v := 1) (by decide) d_Mo_isWord_58 ?_
        refine ow_goto (tgt := 63) d_Mo_isWord_59 (by decide) ?_
        refine ow_istore_n (ls2 := [(2, .int 1), (0, .ref 70), (1, .ref (1000 + i)), (3, .int v3)]) d_Mo_isWord_63 (by decide) rfl ?_
        refine ow_iinc 3 (v := (v3 + 1)) (ls2 := [(3, .int (v3 + 1)), (2, .int 1), (0, .ref 70), (1, .ref (1000 + i))]) d_Mo_isWord_64 rfl rfl (by decide) rfl ?_
        refine ow_goto (tgt := 32) d_Mo_isWord_67 (by decide) ?_
        refine ow_sub [2, 3, 1, 0] rfl ?_
        exact T
set_option maxRecDepth 4000 in
theorem t_Mo_isWord {d : Nat} {I : Nat → Nat → Int32} {J : Nat → Nat → Int64} {R : Nat → Nat → Option Nat} {Q : Option Value → ow_H → Prop} {i : Nat} (hi : i < ow_ns) (hR : ow_RF R) (T : ((¬ (I 70 13) = 0 → Q (some (.int 0)) (85, I, J, R)) ∧ ((I 70 13) = 0 → ((¬ (I 70 6) = 2 → Q (some (.int 0)) (85, I, J, R)) ∧ ((I 70 6) = 2 → (ow_AM M_Str_length d [.ref (1000 + i)] (85, I, J, R) (fun r h' => ∃ (r3 : Int32) (I3 : Nat → Nat → Int32) (J3 : Nat → Nat → Int64) (R3 : Nat → Nat → Option Nat), r = some (.int r3) ∧ h' = (85, I3, J3, R3) ∧ ow_RF R3 ∧ (((I 70 8) = r3 → ow_AW ow_Y0 (ow_Z Q) M_Mo_isWord (d + 1) 0 0 32 [(0, .ref 70), (1, .ref (1000 + i)), (2, .int 1), (3, .int 0)] [] (85, I3, J3, R3) 0 0) ∧ (¬ (I 70 8) = r3 → Q (some (.int 0)) (85, I3, J3, R3)))))))))) : ow_AM M_Mo_isWord (d + 1) [.ref 70, .ref (1000 + i)] (85, I, J, R) Q := by
  refine ow_enter (by decide) (Nat.le_of_ble_eq_true rfl) ?_
  show ow_AW ow_Y0 (ow_Z Q) M_Mo_isWord (d + 1) 0 0 0 [(0, .ref 70), (1, .ref (1000 + i))] [] (85, I, J, R) 0 0
  refine ow_aload_n 0 rfl d_Mo_isWord_0 ?_
  refine ow_gI 182 d_Mo_isWord_1 rfl rfl (by decide) rfl (Or.inr rfl) ?_
  refine ow_if_ne (tgt := 26) d_Mo_isWord_4 (by decide) (fun c => ?_) (fun c => ?_)
  · replace T := T.1 c
    refine ow_iconst (v := 0) (by decide) d_Mo_isWord_26 ?_
    exact ow_zret d_Mo_isWord_27 rfl (by decide) T
  · replace T := T.2 c
    refine ow_aload_n 0 rfl d_Mo_isWord_7 ?_
    refine ow_gI 175 d_Mo_isWord_8 rfl rfl (by decide) rfl (Or.inl rfl) ?_
    refine ow_iconst (v := 2) (by decide) d_Mo_isWord_11 ?_
    refine ow_icmp_ne (tgt := 26) d_Mo_isWord_12 (by decide) (fun c => ?_) (fun c => ?_)
    · replace T := T.1 c
      refine ow_iconst (v := 0) (by decide) d_Mo_isWord_26 ?_
      exact ow_zret d_Mo_isWord_27 rfl (by decide) T
    · replace T := T.2 c
      refine ow_aload_n 0 rfl d_Mo_isWord_15 ?_
      refine ow_gI 177 d_Mo_isWord_16 rfl rfl (by decide) rfl (Or.inl rfl) ?_
      refine ow_aload_n 1 rfl d_Mo_isWord_19 ?_
      refine ow_callT (i := i) (As := []) (rest := [.int (I 70 8)]) (d2 := d) d_Mo_isWord_20 l_Mo_98 v_Str_length hi rfl (Nat.le_of_ble_eq_true rfl) (Nat.le_refl _) ⟨Nat.le_refl _, Nat.le_refl _⟩ (ow_mono T ?_)
      rintro r h' ⟨r3, I3, J3, R3, rfl, rfl, hR3, T⟩
      show ow_AW ow_Y0 (ow_Z Q) M_Mo_isWord (d + 1) 0 0 23 [(0, .ref 70), (1, .ref (1000 + i))] [.int r3, .int (I 70 8)] (85, I3, J3, R3) 0 0
      refine ow_icmp_eq (tgt := 28) d_Mo_isWord_23 (by decide) (fun c => ?_) (fun c => ?_)
      · replace T := T.1 c
        refine ow_iconst (v := 1) (by decide) d_Mo_isWord_28 ?_
        refine ow_istore_n (ls2 := [(2, .int 1), (0, .ref 70), (1, .ref (1000 + i))]) d_Mo_isWord_29 (by decide) rfl ?_
        refine ow_iconst (v := 0) (by decide) d_Mo_isWord_30 ?_
        refine ow_istore_n (ls2 := [(3, .int 0), (2, .int 1), (0, .ref 70), (1, .ref (1000 + i))]) d_Mo_isWord_31 (by decide) rfl ?_
        refine ow_sub [2, 3, 1, 0] rfl ?_
        exact T
      · replace T := T.2 c
        refine ow_iconst (v := 0) (by decide) d_Mo_isWord_26 ?_
        exact ow_zret d_Mo_isWord_27 rfl (by decide) T
set_option maxRecDepth 4000 in
theorem t_Mo_takesWord {d : Nat} {I : Nat → Nat → Int32} {J : Nat → Nat → Int64} {R : Nat → Nat → Option Nat} {Q : Option Value → ow_H → Prop} {i : Nat} (hi : i < ow_ns) (hR : ow_RF R) (T : (ow_AM M_Mo_isWord d [.ref 70, .ref (1000 + i)] (85, I, J, R) (fun r h' => ∃ (r3 : Int32) (I3 : Nat → Nat → Int32) (J3 : Nat → Nat → Int64) (R3 : Nat → Nat → Option Nat), r = some (.int r3) ∧ h' = (85, I3, J3, R3) ∧ ow_RF R3 ∧ ((¬ r3 = 0 → (ow_AM M_Mo_next d [.ref 70] (85, I3, J3, R3) (fun r h' => ∃ (I4 : Nat → Nat → Int32) (J4 : Nat → Nat → Int64) (R4 : Nat → Nat → Option Nat), r = none ∧ h' = (85, I4, J4, R4) ∧ ow_RF R4 ∧ Q (some (.int 1)) (85, I4, J4, R4)))) ∧ (r3 = 0 → Q (some (.int 0)) (85, I3, J3, R3)))))) : ow_AM M_Mo_takesWord (d + 1) [.ref 70, .ref (1000 + i)] (85, I, J, R) Q := by
  refine ow_enter (by decide) (Nat.le_of_ble_eq_true rfl) ?_
  show ow_AW ow_Y0 (ow_Z Q) M_Mo_takesWord (d + 1) 0 0 0 [(0, .ref 70), (1, .ref (1000 + i))] [] (85, I, J, R) 0 0
  refine ow_aload_n 0 rfl d_Mo_takesWord_0 ?_
  refine ow_aload_n 1 rfl d_Mo_takesWord_1 ?_
  refine ow_callV (b := 70) (cq := 12) (As := [.ref (1000 + i)]) (rest := []) (d2 := d) d_Mo_takesWord_2 l_Mo_108 v_Mo_isWord (show 70 < 85 by decide) rfl (by decide) rfl (Nat.le_of_ble_eq_true rfl) (Nat.le_refl _) ⟨Nat.le_refl _, Nat.le_refl _⟩ (ow_mono T ?_)
  rintro r h' ⟨r3, I3, J3, R3, rfl, rfl, hR3, T⟩
  show ow_AW ow_Y0 (ow_Z Q) M_Mo_takesWord (d + 1) 0 0 5 [(0, .ref 70), (1, .ref (1000 + i))] [.int r3] (85, I3, J3, R3) 0 0
  refine ow_if_ne (tgt := 10) d_Mo_takesWord_5 (by decide) (fun c => ?_) (fun c => ?_)
  · replace T := T.1 c
    refine ow_aload_n 0 rfl d_Mo_takesWord_10 ?_
    refine ow_callV (b := 70) (cq := 12) (As := []) (rest := []) (d2 := d) d_Mo_takesWord_11 l_Mo_112 v_Mo_next (show 70 < 85 by decide) rfl (by decide) rfl (Nat.le_of_ble_eq_true rfl) (Nat.le_refl _) ⟨Nat.le_refl _, Nat.le_refl _⟩ (ow_mono T ?_)
    rintro r h' ⟨I4, J4, R4, rfl, rfl, hR4, T⟩
    show ow_AW ow_Y0 (ow_Z Q) M_Mo_takesWord (d + 1) 0 0 14 [(0, .ref 70), (1, .ref (1000 + i))] [] (85, I4, J4, R4) 0 0
    refine ow_iconst (v := 1) (by decide) d_Mo_takesWord_14 ?_
    exact ow_zret d_Mo_takesWord_15 rfl (by decide) T
  · replace T := T.2 c
    refine ow_iconst (v := 0) (by decide) d_Mo_takesWord_8 ?_
    exact ow_zret d_Mo_takesWord_9 rfl (by decide) T
set_option maxRecDepth 4000 in
theorem t_Mo_must {d : Nat} {I : Nat → Nat → Int32} {J : Nat → Nat → Int64} {R : Nat → Nat → Option Nat} {Q : Option Value → ow_H → Prop} {i : Nat} (hi : i < ow_ns) (hR : ow_RF R) (T : ((¬ (I 70 13) = 0 → Q none (85, I, J, R)) ∧ ((I 70 13) = 0 → (ow_AM M_Mo_takesWord d [.ref 70, .ref (1000 + i)] (85, I, J, R) (fun r h' => ∃ (r3 : Int32) (I3 : Nat → Nat → Int32) (J3 : Nat → Nat → Int64) (R3 : Nat → Nat → Option Nat), r = some (.int r3) ∧ h' = (85, I3, J3, R3) ∧ ow_RF R3 ∧ ((¬ r3 = 0 → Q none (85, I3, J3, R3)) ∧ (r3 = 0 → (ow_AM M_Mo_wrong d [.ref 70, .int 1, .int (I3 70 4)] (85, I3, J3, R3) (fun r h' => ∃ (I4 : Nat → Nat → Int32) (J4 : Nat → Nat → Int64) (R4 : Nat → Nat → Option Nat), r = none ∧ h' = (85, I4, J4, R4) ∧ ow_RF R4 ∧ Q none (85, I4, J4, R4)))))))))) : ow_AM M_Mo_must (d + 1) [.ref 70, .ref (1000 + i)] (85, I, J, R) Q := by
  refine ow_enter (by decide) (Nat.le_of_ble_eq_true rfl) ?_
  show ow_AW ow_Y0 (ow_Z Q) M_Mo_must (d + 1) 0 0 0 [(0, .ref 70), (1, .ref (1000 + i))] [] (85, I, J, R) 0 0
  refine ow_aload_n 0 rfl d_Mo_must_0 ?_
  refine ow_gI 182 d_Mo_must_1 rfl rfl (by decide) rfl (Or.inr rfl) ?_
  refine ow_if_ne (tgt := 24) d_Mo_must_4 (by decide) (fun c => ?_) (fun c => ?_)
  · replace T := T.1 c
    exact ow_vret d_Mo_must_24 rfl T
  · replace T := T.2 c
    refine ow_aload_n 0 rfl d_Mo_must_7 ?_
    refine ow_aload_n 1 rfl d_Mo_must_8 ?_
    refine ow_callV (b := 70) (cq := 12) (As := [.ref (1000 + i)]) (rest := []) (d2 := d) d_Mo_must_9 l_Mo_115 v_Mo_takesWord (show 70 < 85 by decide) rfl (by decide) rfl (Nat.le_of_ble_eq_true rfl) (Nat.le_refl _) ⟨Nat.le_refl _, Nat.le_refl _⟩ (ow_mono T ?_)
    rintro r h' ⟨r3, I3, J3, R3, rfl, rfl, hR3, T⟩
    show ow_AW ow_Y0 (ow_Z Q) M_Mo_must (d + 1) 0 0 12 [(0, .ref 70), (1, .ref (1000 + i))] [.int r3] (85, I3, J3, R3) 0 0
    refine ow_if_ne (tgt := 24) d_Mo_must_12 (by decide) (fun c => ?_) (fun c => ?_)
    · replace T := T.1 c
      exact ow_vret d_Mo_must_24 rfl T
    · replace T := T.2 c
      refine ow_aload_n 0 rfl d_Mo_must_15 ?_
      refine ow_iconst (v := 1) (by decide) d_Mo_must_16 ?_
      refine ow_aload_n 0 rfl d_Mo_must_17 ?_
      refine ow_gI 173 d_Mo_must_18 rfl rfl (by decide) rfl (Or.inl rfl) ?_
      refine ow_callV (b := 70) (cq := 12) (As := [.int 1, .int (I3 70 4)]) (rest := []) (d2 := d) d_Mo_must_21 l_Mo_118 v_Mo_wrong (show 70 < 85 by decide) rfl (by decide) rfl (Nat.le_of_ble_eq_true rfl) (Nat.le_refl _) ⟨Nat.le_refl _, Nat.le_refl _⟩ (ow_mono T ?_)
      rintro r h' ⟨I4, J4, R4, rfl, rfl, hR4, T⟩
      show ow_AW ow_Y0 (ow_Z Q) M_Mo_must (d + 1) 0 0 24 [(0, .ref 70), (1, .ref (1000 + i))] [] (85, I4, J4, R4) 0 0
      exact ow_vret d_Mo_must_24 rfl T
set_option maxRecDepth 4000 in
theorem t_Mo_mustName {d : Nat} {I : Nat → Nat → Int32} {J : Nat → Nat → Int64} {R : Nat → Nat → Option Nat} {Q : Option Value → ow_H → Prop}   (hR : ow_RF R) (T : ((¬ (I 70 6) = 2 → (ow_AM M_Mo_wrong d [.ref 70, .int 1, .int (I 70 4)] (85, I, J, R) (fun r h' => ∃ (I16 : Nat → Nat → Int32) (J16 : Nat → Nat → Int64) (R16 : Nat → Nat → Option Nat), r = none ∧ h' = (85, I16, J16, R16) ∧ ow_RF R16 ∧ Q none (85, I16, J16, R16)))) ∧ ((I 70 6) = 2 → (ow_AM M_Mo_isWord d [.ref 70, .ref (1000 + 0)] (85, I, J, R) (fun r h' => ∃ (r17 : Int32) (I17 : Nat → Nat → Int32) (J17 : Nat → Nat → Int64) (R17 : Nat → Nat → Option Nat), r = some (.int r17) ∧ h' = (85, I17, J17, R17) ∧ ow_RF R17 ∧ ((¬ r17 = 0 → (ow_AM M_Mo_wrong d [.ref 70, .int 1, .int (I17 70 4)] (85, I17, J17, R17) (fun r h' => ∃ (I18 : Nat → Nat → Int32) (J18 : Nat → Nat → Int64) (R18 : Nat → Nat → Option Nat), r = none ∧ h' = (85, I18, J18, R18) ∧ ow_RF R18 ∧ Q none (85, I18, J18, R18)))) ∧ (r17 = 0 → (ow_AM M_Mo_isWord d [.ref 70, .ref (1000 + 1)] (85, I17, J17, R17) (fun r h' => ∃ (r19 : Int32) (I19 : Nat → Nat → Int32) (J19 : Nat → Nat → Int64) (R19 : Nat → Nat → Option Nat), r = some (.int r19) ∧ h' = (85, I19, J19, R19) ∧ ow_RF R19 ∧ ((¬ r19 = 0 → (ow_AM M_Mo_wrong d [.ref 70, .int 1, .int (I19 70 4)] (85, I19, J19, R19) (fun r h' => ∃ (I20 : Nat → Nat → Int32) (J20 : Nat → Nat → Int64) (R20 : Nat → Nat → Option Nat), r = none ∧ h' = (85, I20, J20, R20) ∧ ow_RF R20 ∧ Q none (85, I20, J20, R20)))) ∧ (r19 = 0 → (ow_AM M_Mo_isWord d [.ref 70, .ref (1000 + 2)] (85, I19, J19, R19) (fun r h' => ∃ (r21 : Int32) (I21 : Nat → Nat → Int32) (J21 : Nat → Nat → Int64) (R21 : Nat → Nat → Option Nat), r = some (.int r21) ∧ h' = (85, I21, J21, R21) ∧ ow_RF R21 ∧ ((¬ r21 = 0 → (ow_AM M_Mo_wrong d [.ref 70, .int 1, .int (I21 70 4)] (85, I21, J21, R21) (fun r h' => ∃ (I22 : Nat → Nat → Int32) (J22 : Nat → Nat → Int64) (R22 : Nat → Nat → Option Nat), r = none ∧ h' = (85, I22, J22, R22) ∧ ow_RF R22 ∧ Q none (85, I22, J22, R22)))) ∧ (r21 = 0 → (ow_AM M_Mo_isWord d [.ref 70, .ref (1000 + 3)] (85, I21, J21, R21) (fun r h' => ∃ (r23 : Int32) (I23 : Nat → Nat → Int32) (J23 : Nat → Nat → Int64) (R23 : Nat → Nat → Option Nat), r = some (.int r23) ∧ h' = (85, I23, J23, R23) ∧ ow_RF R23 ∧ ((¬ r23 = 0 → (ow_AM M_Mo_wrong d [.ref 70, .int 1, .int (I23 70 4)] (85, I23, J23, R23) (fun r h' => ∃ (I24 : Nat → Nat → Int32) (J24 : Nat → Nat → Int64) (R24 : Nat → Nat → Option Nat), r = none ∧ h' = (85, I24, J24, R24) ∧ ow_RF R24 ∧ Q none (85, I24, J24, R24)))) ∧ (r23 = 0 → (ow_AM M_Mo_isWord d [.ref 70, .ref (1000 + 4)] (85, I23, J23, R23) (fun r h' => ∃ (r25 : Int32) (I25 : Nat → Nat → Int32) (J25 : Nat → Nat → Int64) (R25 : Nat → Nat → Option Nat), r = some (.int r25) ∧ h' = (85, I25, J25, R25) ∧ ow_RF R25 ∧ ((¬ r25 = 0 → (ow_AM M_Mo_wrong d [.ref 70, .int 1, .int (I25 70 4)] (85, I25, J25, R25) (fun r h' => ∃ (I26 : Nat → Nat → Int32) (J26 : Nat → Nat → Int64) (R26 : Nat → Nat → Option Nat), r = none ∧ h' = (85, I26, J26, R26) ∧ ow_RF R26 ∧ Q none (85, I26, J26, R26)))) ∧ (r25 = 0 → (ow_AM M_Mo_isWord d [.ref 70, .ref (1000 + 5)] (85, I25, J25, R25) (fun r h' => ∃ (r27 : Int32) (I27 : Nat → Nat → Int32) (J27 : Nat → Nat → Int64) (R27 : Nat → Nat → Option Nat), r = some (.int r27) ∧ h' = (85, I27, J27, R27) ∧ ow_RF R27 ∧ ((¬ r27 = 0 → (ow_AM M_Mo_wrong d [.ref 70, .int 1, .int (I27 70 4)] (85, I27, J27, R27) (fun r h' => ∃ (I28 : Nat → Nat → Int32) (J28 : Nat → Nat → Int64) (R28 : Nat → Nat → Option Nat), r = none ∧ h' = (85, I28, J28, R28) ∧ ow_RF R28 ∧ Q none (85, I28, J28, R28)))) ∧ (r27 = 0 → (ow_AM M_Mo_isWord d [.ref 70, .ref (1000 + 6)] (85, I27, J27, R27) (fun r h' => ∃ (r29 : Int32) (I29 : Nat → Nat → Int32) (J29 : Nat → Nat → Int64) (R29 : Nat → Nat → Option Nat), r = some (.int r29) ∧ h' = (85, I29, J29, R29) ∧ ow_RF R29 ∧ ((r29 = 0 → Q none (85, I29, J29, R29)) ∧ (¬ r29 = 0 → (ow_AM M_Mo_wrong d [.ref 70, .int 1, .int (I29 70 4)] (85, I29, J29, R29) (fun r h' => ∃ (I30 : Nat → Nat → Int32) (J30 : Nat → Nat → Int64) (R30 : Nat → Nat → Option Nat), r = none ∧ h' = (85, I30, J30, R30) ∧ ow_RF R30 ∧ Q none (85, I30, J30, R30)))))))))))))))))))))))))))))))))) : ow_AM M_Mo_mustName (d + 1) [.ref 70] (85, I, J, R) Q := by
  refine ow_enter (by decide) (Nat.le_of_ble_eq_true rfl) ?_
  show ow_AW ow_Y0 (ow_Z Q) M_Mo_mustName (d + 1) 0 0 0 [(0, .ref 70)] [] (85, I, J, R) 0 0
  refine ow_aload_n 0 rfl d_Mo_mustName_0 ?_
  refine ow_gI 175 d_Mo_mustName_1 rfl rfl (by decide) rfl (Or.inl rfl) ?_
  refine ow_iconst (v := 2) (by decide) d_Mo_mustName_4 ?_
  refine ow_icmp_ne (tgt := 71) d_Mo_mustName_5 (by decide) (fun c => ?_) (fun c => ?_)
  · replace T := T.1 c
    refine ow_aload_n 0 rfl d_Mo_mustName_71 ?_
    refine ow_iconst (v := 1) (by decide) d_Mo_mustName_72 ?_
    refine ow_aload_n 0 rfl d_Mo_mustName_73 ?_
    refine ow_gI 173 d_Mo_mustName_74 rfl rfl (by decide) rfl (Or.inl rfl) ?_
    refine ow_callV (b := 70) (cq := 12) (As := [.int 1, .int (I 70 4)]) (rest := []) (d2 := d) d_Mo_mustName_77 l_Mo_118 v_Mo_wrong (show 70 < 85 by decide) rfl (by decide) rfl (Nat.le_of_ble_eq_true rfl) (Nat.le_refl _) ⟨Nat.le_refl _, Nat.le_refl _⟩ (ow_mono T ?_)
    rintro r h' ⟨I16, J16, R16, rfl, rfl, hR16, T⟩
    show ow_AW ow_Y0 (ow_Z Q) M_Mo_mustName (d + 1) 0 0 80 [(0, .ref 70)] [] (85, I16, J16, R16) 0 0
    exact ow_vret d_Mo_mustName_80 rfl T
  · replace T := T.2 c
    refine ow_aload_n 0 rfl d_Mo_mustName_8 ?_
    refine ow_ldS (tx := "shire") (i := 0) 19 d_Mo_mustName_9 rfl ?_
    refine ow_callV (b := 70) (cq := 12) (As := [.ref (1000 + 0)]) (rest := []) (d2 := d) d_Mo_mustName_11 l_Mo_108 v_Mo_isWord (show 70 < 85 by decide) rfl (by decide) rfl (Nat.le_of_ble_eq_true rfl) (Nat.le_refl _) ⟨Nat.le_refl _, Nat.le_refl _⟩ (ow_mono T ?_)
    rintro r h' ⟨r17, I17, J17, R17, rfl, rfl, hR17, T⟩
    show ow_AW ow_Y0 (ow_Z Q) M_Mo_mustName (d + 1) 0 0 14 [(0, .ref 70)] [.int r17] (85, I17, J17, R17) 0 0
    refine ow_if_ne (tgt := 71) d_Mo_mustName_14 (by decide) (fun c => ?_) (fun c => ?_)
    · replace T := T.1 c
      refine ow_aload_n 0 rfl d_Mo_mustName_71 ?_
      refine ow_iconst (v := 1) (by decide) d_Mo_mustName_72 ?_
      refine ow_aload_n 0 rfl d_Mo_mustName_73 ?_
      refine ow_gI 173 d_Mo_mustName_74 rfl rfl (by decide) rfl (Or.inl rfl) ?_
      refine ow_callV (b := 70) (cq := 12) (As := [.int 1, .int (I17 70 4)]) (rest := []) (d2 := d) d_Mo_mustName_77 l_Mo_118 v_Mo_wrong (show 70 < 85 by decide) rfl (by decide) rfl (Nat.le_of_ble_eq_true rfl) (Nat.le_refl _) ⟨Nat.le_refl _, Nat.le_refl _⟩ (ow_mono T ?_)
      rintro r h' ⟨I18, J18, R18, rfl, rfl, hR18, T⟩
      show ow_AW ow_Y0 (ow_Z Q) M_Mo_mustName (d + 1) 0 0 80 [(0, .ref 70)] [] (85, I18, J18, R18) 0 0
      exact ow_vret d_Mo_mustName_80 rfl T
    · replace T := T.2 c
      refine ow_aload_n 0 rfl d_Mo_mustName_17 ?_
      refine ow_ldS (tx := "folly") (i := 1) 22 d_Mo_mustName_18 rfl ?_
      refine ow_callV (b := 70) (cq := 12) (As := [.ref (1000 + 1)]) (rest := []) (d2 := d) d_Mo_mustName_20 l_Mo_108 v_Mo_isWord (show 70 < 85 by decide) rfl (by decide) rfl (Nat.le_of_ble_eq_true rfl) (Nat.le_refl _) ⟨Nat.le_refl _, Nat.le_refl _⟩ (ow_mono T ?_)
      rintro r h' ⟨r19, I19, J19, R19, rfl, rfl, hR19, T⟩
      show ow_AW ow_Y0 (ow_Z Q) M_Mo_mustName (d + 1) 0 0 23 [(0, .ref 70)] [.int r19] (85, I19, J19, R19) 0 0
      refine ow_if_ne (tgt := 71) d_Mo_mustName_23 (by decide) (fun c => ?_) (fun c => ?_)
      · replace T := T.1 c
        refine ow_aload_n 0 rfl d_Mo_mustName_71 ?_
        refine ow_iconst (v := 1) (by decide) d_Mo_mustName_72 ?_
        refine ow_aload_n 0 rfl d_Mo_mustName_73 ?_
        refine ow_gI 173 d_Mo_mustName_74 rfl rfl (by decide) rfl (Or.inl rfl) ?_
        refine ow_callV (b := 70) (cq := 12) (As := [.int 1, .int (I19 70 4)]) (rest := []) (d2 := d) d_Mo_mustName_77 l_Mo_118 v_Mo_wrong (show 70 < 85 by decide) rfl (by decide) rfl (Nat.le_of_ble_eq_true rfl) (Nat.le_refl _) ⟨Nat.le_refl _, Nat.le_refl _⟩ (ow_mono T ?_)
        rintro r h' ⟨I20, J20, R20, rfl, rfl, hR20, T⟩
        show ow_AW ow_Y0 (ow_Z Q) M_Mo_mustName (d + 1) 0 0 80 [(0, .ref 70)] [] (85, I20, J20, R20) 0 0
        exact ow_vret d_Mo_mustName_80 rfl T
      · replace T := T.2 c
        refine ow_aload_n 0 rfl d_Mo_mustName_26 ?_
        refine ow_ldS (tx := "sends") (i := 2) 23 d_Mo_mustName_27 rfl ?_
        refine ow_callV (b := 70) (cq := 12) (As := [.ref (1000 + 2)]) (rest := []) (d2 := d) d_Mo_mustName_29 l_Mo_108 v_Mo_isWord (show 70 < 85 by decide) rfl (by decide) rfl (Nat.le_of_ble_eq_true rfl) (Nat.le_refl _) ⟨Nat.le_refl _, Nat.le_refl _⟩ (ow_mono T ?_)
        rintro r h' ⟨r21, I21, J21, R21, rfl, rfl, hR21, T⟩
        show ow_AW ow_Y0 (ow_Z Q) M_Mo_mustName (d + 1) 0 0 32 [(0, .ref 70)] [.int r21] (85, I21, J21, R21) 0 0
        refine ow_if_ne (tgt := 71) d_Mo_mustName_32 (by decide) (fun c => ?_) (fun c => ?_)
        · replace T := T.1 c
          refine ow_aload_n 0 rfl d_Mo_mustName_71 ?_
          refine ow_iconst (v := 1) (by decide) d_Mo_mustName_72 ?_
          refine ow_aload_n 0 rfl d_Mo_mustName_73 ?_
          refine ow_gI 173 d_Mo_mustName_74 rfl rfl (by decide) rfl (Or.inl rfl) ?_
          refine ow_callV (b := 70) (cq := 12) (As := [.int 1, .int (I21 70 4)]) (rest := []) (d2 := d) d_Mo_mustName_77 l_Mo_118 v_Mo_wrong (show 70 < 85 by decide) rfl (by decide) rfl (Nat.le_of_ble_eq_true rfl) (Nat.le_refl _) ⟨Nat.le_refl _, Nat.le_refl _⟩ (ow_mono T ?_)
          rintro r h' ⟨I22, J22, R22, rfl, rfl, hR22, T⟩
          show ow_AW ow_Y0 (ow_Z Q) M_Mo_mustName (d + 1) 0 0 80 [(0, .ref 70)] [] (85, I22, J22, R22) 0 0
          exact ow_vret d_Mo_mustName_80 rfl T
        · replace T := T.2 c
          refine ow_aload_n 0 rfl d_Mo_mustName_35 ?_
          refine ow_ldS (tx := "hermit") (i := 3) 24 d_Mo_mustName_36 rfl ?_
          refine ow_callV (b := 70) (cq := 12) (As := [.ref (1000 + 3)]) (rest := []) (d2 := d) d_Mo_mustName_38 l_Mo_108 v_Mo_isWord (show 70 < 85 by decide) rfl (by decide) rfl (Nat.le_of_ble_eq_true rfl) (Nat.le_refl _) ⟨Nat.le_refl _, Nat.le_refl _⟩ (ow_mono T ?_)
          rintro r h' ⟨r23, I23, J23, R23, rfl, rfl, hR23, T⟩
          show ow_AW ow_Y0 (ow_Z Q) M_Mo_mustName (d + 1) 0 0 41 [(0, .ref 70)] [.int r23] (85, I23, J23, R23) 0 0
          refine ow_if_ne (tgt := 71) d_Mo_mustName_41 (by decide) (fun c => ?_) (fun c => ?_)
          · replace T := T.1 c
            refine ow_aload_n 0 rfl d_Mo_mustName_71 ?_
            refine ow_iconst (v := 1) (by decide) d_Mo_mustName_72 ?_
            refine ow_aload_n 0 rfl d_Mo_mustName_73 ?_
            refine ow_gI 173 d_Mo_mustName_74 rfl rfl (by decide) rfl (Or.inl rfl) ?_
            refine ow_callV (b := 70) (cq := 12) (As := [.int 1, .int (I23 70 4)]) (rest := []) (d2 := d) d_Mo_mustName_77 l_Mo_118 v_Mo_wrong (show 70 < 85 by decide) rfl (by decide) rfl (Nat.le_of_ble_eq_true rfl) (Nat.le_refl _) ⟨Nat.le_refl _, Nat.le_refl _⟩ (ow_mono T ?_)
            rintro r h' ⟨I24, J24, R24, rfl, rfl, hR24, T⟩
            show ow_AW ow_Y0 (ow_Z Q) M_Mo_mustName (d + 1) 0 0 80 [(0, .ref 70)] [] (85, I24, J24, R24) 0 0
            exact ow_vret d_Mo_mustName_80 rfl T
          · replace T := T.2 c
            refine ow_aload_n 0 rfl d_Mo_mustName_44 ?_
            refine ow_ldS (tx := "estate") (i := 4) 25 d_Mo_mustName_45 rfl ?_
            refine ow_callV (b := 70) (cq := 12) (As := [.ref (1000 + 4)]) (rest := []) (d2 := d) d_Mo_mustName_47 l_Mo_108 v_Mo_isWord (show 70 < 85 by decide) rfl (by decide) rfl (Nat.le_of_ble_eq_true rfl) (Nat.le_refl _) ⟨Nat.le_refl _, Nat.le_refl _⟩ (ow_mono T ?_)
            rintro r h' ⟨r25, I25, J25, R25, rfl, rfl, hR25, T⟩
            show ow_AW ow_Y0 (ow_Z Q) M_Mo_mustName (d + 1) 0 0 50 [(0, .ref 70)] [.int r25] (85, I25, J25, R25) 0 0
            refine ow_if_ne (tgt := 71) d_Mo_mustName_50 (by decide) (fun c => ?_) (fun c => ?_)
            · replace T := T.1 c
              refine ow_aload_n 0 rfl d_Mo_mustName_71 ?_
              refine ow_iconst (v := 1) (by decide) d_Mo_mustName_72 ?_
              refine ow_aload_n 0 rfl d_Mo_mustName_73 ?_
              refine ow_gI 173 d_Mo_mustName_74 rfl rfl (by decide) rfl (Or.inl rfl) ?_
              refine ow_callV (b := 70) (cq := 12) (As := [.int 1, .int (I25 70 4)]) (rest := []) (d2 := d) d_Mo_mustName_77 l_Mo_118 v_Mo_wrong (show 70 < 85 by decide) rfl (by decide) rfl (Nat.le_of_ble_eq_true rfl) (Nat.le_refl _) ⟨Nat.le_refl _, Nat.le_refl _⟩ (ow_mono T ?_)
              rintro r h' ⟨I26, J26, R26, rfl, rfl, hR26, T⟩
              show ow_AW ow_Y0 (ow_Z Q) M_Mo_mustName (d + 1) 0 0 80 [(0, .ref 70)] [] (85, I26, J26, R26) 0 0
              exact ow_vret d_Mo_mustName_80 rfl T
            · replace T := T.2 c
              refine ow_aload_n 0 rfl d_Mo_mustName_53 ?_
              refine ow_ldS (tx := "veiled") (i := 5) 26 d_Mo_mustName_54 rfl ?_
              refine ow_callV (b := 70) (cq := 12) (As := [.ref (1000 + 5)]) (rest := []) (d2 := d) d_Mo_mustName_56 l_Mo_108 v_Mo_isWord (show 70 < 85 by decide) rfl (by decide) rfl (Nat.le_of_ble_eq_true rfl) (Nat.le_refl _) ⟨Nat.le_refl _, Nat.le_refl _⟩ (ow_mono T ?_)
              rintro r h' ⟨r27, I27, J27, R27, rfl, rfl, hR27, T⟩
              show ow_AW ow_Y0 (ow_Z Q) M_Mo_mustName (d + 1) 0 0 59 [(0, .ref 70)] [.int r27] (85, I27, J27, R27) 0 0
              refine ow_if_ne (tgt := 71) d_Mo_mustName_59 (by decide) (fun c => ?_) (fun c => ?_)
              · replace T := T.1 c
                refine ow_aload_n 0 rfl d_Mo_mustName_71 ?_
                refine ow_iconst (v := 1) (by decide) d_Mo_mustName_72 ?_
                refine ow_aload_n 0 rfl d_Mo_mustName_73 ?_
                refine ow_gI 173 d_Mo_mustName_74 rfl rfl (by decide) rfl (Or.inl rfl) ?_
                refine ow_callV (b := 70) (cq := 12) (As := [.int 1, .int (I27 70 4)]) (rest := []) (d2 := d) d_Mo_mustName_77 l_Mo_118 v_Mo_wrong (show 70 < 85 by decide) rfl (by decide) rfl (Nat.le_of_ble_eq_true rfl) (Nat.le_refl _) ⟨Nat.le_refl _, Nat.le_refl _⟩ (ow_mono T ?_)
                rintro r h' ⟨I28, J28, R28, rfl, rfl, hR28, T⟩
                show ow_AW ow_Y0 (ow_Z Q) M_Mo_mustName (d + 1) 0 0 80 [(0, .ref 70)] [] (85, I28, J28, R28) 0 0
                exact ow_vret d_Mo_mustName_80 rfl T
              · replace T := T.2 c
                refine ow_aload_n 0 rfl d_Mo_mustName_62 ?_
                refine ow_ldS (tx := "signed") (i := 6) 27 d_Mo_mustName_63 rfl ?_
                refine ow_callV (b := 70) (cq := 12) (As := [.ref (1000 + 6)]) (rest := []) (d2 := d) d_Mo_mustName_65 l_Mo_108 v_Mo_isWord (show 70 < 85 by decide) rfl (by decide) rfl (Nat.le_of_ble_eq_true rfl) (Nat.le_refl _) ⟨Nat.le_refl _, Nat.le_refl _⟩ (ow_mono T ?_)
                rintro r h' ⟨r29, I29, J29, R29, rfl, rfl, hR29, T⟩
                show ow_AW ow_Y0 (ow_Z Q) M_Mo_mustName (d + 1) 0 0 68 [(0, .ref 70)] [.int r29] (85, I29, J29, R29) 0 0
                refine ow_if_eq (tgt := 80) d_Mo_mustName_68 (by decide) (fun c => ?_) (fun c => ?_)
                · replace T := T.1 c
                  exact ow_vret d_Mo_mustName_80 rfl T
                · replace T := T.2 c
                  refine ow_aload_n 0 rfl d_Mo_mustName_71 ?_
                  refine ow_iconst (v := 1) (by decide) d_Mo_mustName_72 ?_
                  refine ow_aload_n 0 rfl d_Mo_mustName_73 ?_
                  refine ow_gI 173 d_Mo_mustName_74 rfl rfl (by decide) rfl (Or.inl rfl) ?_
                  refine ow_callV (b := 70) (cq := 12) (As := [.int 1, .int (I29 70 4)]) (rest := []) (d2 := d) d_Mo_mustName_77 l_Mo_118 v_Mo_wrong (show 70 < 85 by decide) rfl (by decide) rfl (Nat.le_of_ble_eq_true rfl) (Nat.le_refl _) ⟨Nat.le_refl _, Nat.le_refl _⟩ (ow_mono T ?_)
                  rintro r h' ⟨I30, J30, R30, rfl, rfl, hR30, T⟩
                  show ow_AW ow_Y0 (ow_Z Q) M_Mo_mustName (d + 1) 0 0 80 [(0, .ref 70)] [] (85, I30, J30, R30) 0 0
                  exact ow_vret d_Mo_mustName_80 rfl T
set_option maxRecDepth 4000 in
theorem t_Mo_find_2 {d : Nat} {I : Nat → Nat → Int32} {J : Nat → Nat → Int64} {R : Nat → Nat → Option Nat} {Q : Option Value → ow_H → Prop}  {v1 : Int32}  (hR : ow_RF R) (T : ((11 ≤ v1 → Q (some (.int (-1))) (85, I, J, R)) ∧ (¬ 11 ≤ v1 → (vp_in (47 + v1) 146 ∧ (((I 74 (47 + v1).toNatClampNeg) ≤ 0 → ow_AW ow_Y0 (ow_Z Q) M_Mo_find (d + 1) 0 0 44 [(0, .ref 70), (1, .int v1), (2, .int 0), (3, .int 0)] [] (85, I, J, R) 0 0) ∧ (¬ (I 74 (47 + v1).toNatClampNeg) ≤ 0 → (vp_in (47 + v1) 146 ∧ ((¬ (I 74 (47 + v1).toNatClampNeg) = (I 70 8) → ow_AW ow_Y0 (ow_Z Q) M_Mo_find (d + 1) 0 0 44 [(0, .ref 70), (1, .int v1), (2, .int 0), (3, .int 0)] [] (85, I, J, R) 0 0) ∧ ((I 74 (47 + v1).toNatClampNeg) = (I 70 8) → ow_AW ow_Y0 (ow_Z Q) M_Mo_find (d + 1) 0 0 44 [(0, .ref 70), (1, .int v1), (2, .int 1), (3, .int 0)] [] (85, I, J, R) 0 0))))))))) : ow_AW ow_Y0 (ow_Z Q) M_Mo_find (d + 1) 0 0 2 [(0, .ref 70), (1, .int v1)] [] (85, I, J, R) 0 0 := by
  refine ow_iload_n 1 rfl d_Mo_find_2 ?_
  refine ow_bipush (v := 11) (by decide) d_Mo_find_3 ?_
  refine ow_icmp_ge (tgt := 103) d_Mo_find_5 (by decide) (fun c => ?_) (fun c => ?_)
  · replace T := T.1 c
    refine ow_iconst (v := (-1)) (by decide) d_Mo_find_103 ?_
    exact ow_iret d_Mo_find_104 rfl T
  · replace T := T.2 c
    refine ow_aload_n 0 rfl d_Mo_find_8 ?_
    refine ow_gR (a := 74) 185 d_Mo_find_9 rfl rfl (by decide) rfl ⟨rfl, hR 70 16 (by decide)⟩ ?_
    refine ow_bipush (v := 47) (by decide) d_Mo_find_12 ?_
    refine ow_iload_n 1 rfl d_Mo_find_14 ?_
    refine ow_iadd d_Mo_find_15 ?_
    obtain ⟨cI, T⟩ := T
    refine ow_hiaload d_Mo_find_16 (by decide) rfl rfl cI ?_
    refine ow_if_le (tgt := 40) d_Mo_find_17 (by decide) (fun c => ?_) (fun c => ?_)
    · replace T := T.1 c
      refine ow_iconst (v := 0) (by decide) d_Mo_find_40 ?_
      refine ow_istore_n (ls2 := [(2, .int 0), (0, .ref 70), (1, .int v1)]) d_Mo_find_41 (by decide) rfl ?_
      refine ow_iconst (v := 0) (by decide) d_Mo_find_42 ?_
      refine ow_istore_n (ls2 := [(3, .int 0), (2, .int 0), (0, .ref 70), (1, .int v1)]) d_Mo_find_43 (by decide) rfl ?_
      refine ow_sub [2, 3, 1, 0] rfl ?_
      exact T
    · replace T := T.2 c
      refine ow_aload_n 0 rfl d_Mo_find_20 ?_
      refine ow_gR (a := 74) 185 d_Mo_find_21 rfl rfl (by decide) rfl ⟨rfl, hR 70 16 (by decide)⟩ ?_
      refine ow_bipush (v := 47) (by decide) d_Mo_find_24 ?_
      refine ow_iload_n 1 rfl d_Mo_find_26 ?_
      refine ow_iadd d_Mo_find_27 ?_
      obtain ⟨cI, T⟩ := T
      refine ow_hiaload d_Mo_find_28 (by decide) rfl rfl cI ?_
      refine ow_aload_n 0 rfl d_Mo_find_29 ?_
      refine ow_gI 177 d_Mo_find_30 rfl rfl (by decide) rfl (Or.inl rfl) ?_
      refine ow_icmp_ne (tgt := 40) d_Mo_find_33 (by decide) (fun c => ?_) (fun c => ?_)
      · replace T := T.1 c
        refine ow_iconst (v := 0) (by decide) d_Mo_find_40 ?_
        refine ow_istore_n (ls2 := [(2, .int 0), (0, .ref 70), (1, .int v1)]) d_Mo_find_41 (by decide) rfl ?_
        refine ow_iconst (v := 0) (by decide) d_Mo_find_42 ?_
        refine ow_istore_n (ls2 := [(3, .int 0), (2, .int 0), (0, .ref 70), (1, .int v1)]) d_Mo_find_43 (by decide) rfl ?_
        refine ow_sub [2, 3, 1, 0] rfl ?_
        exact T
      · replace T := T.2 c
        refine ow_iconst (v := 1) (by decide) d_Mo_find_36 ?_
        refine ow_goto (tgt := 41) d_Mo_find_37 (by decide) ?_
        refine ow_istore_n (ls2 := [(2, .int 1), (0, .ref 70), (1, .int v1)]) d_Mo_find_41 (by decide) rfl ?_
        refine ow_iconst (v := 0) (by decide) d_Mo_find_42 ?_
        refine ow_istore_n (ls2 := [(3, .int 0), (2, .int 1), (0, .ref 70), (1, .int v1)]) d_Mo_find_43 (by decide) rfl ?_
        refine ow_sub [2, 3, 1, 0] rfl ?_
        exact T
set_option maxRecDepth 4000 in
theorem t_Mo_find_44 {d : Nat} {I : Nat → Nat → Int32} {J : Nat → Nat → Int64} {R : Nat → Nat → Option Nat} {Q : Option Value → ow_H → Prop}  {v1 : Int32} {v2 : Int32} {v3 : Int32}  (hR : ow_RF R) (T : (((I 70 8) ≤ v3 → ((v2 = 0 → ow_AW ow_Y0 (ow_Z Q) M_Mo_find (d + 1) 0 0 2 [(0, .ref 70), (1, .int (v1 + 1))] [] (85, I, J, R) 0 0) ∧ (¬ v2 = 0 → Q (some (.int v1)) (85, I, J, R)))) ∧ (¬ (I 70 8) ≤ v3 → ((v2 = 0 → ((v2 = 0 → ow_AW ow_Y0 (ow_Z Q) M_Mo_find (d + 1) 0 0 2 [(0, .ref 70), (1, .int (v1 + 1))] [] (85, I, J, R) 0 0) ∧ (¬ v2 = 0 → Q (some (.int v1)) (85, I, J, R)))) ∧ (¬ v2 = 0 → (vp_in ((58 + (8 * v1)) + v3) 146 ∧ (vp_in v3 8 ∧ ((¬ (I 74 ((58 + (8 * v1)) + v3).toNatClampNeg) = (I 72 v3.toNatClampNeg) → ow_AW ow_Y0 (ow_Z Q) M_Mo_find (d + 1) 0 0 44 [(0, .ref 70), (1, .int v1), (2, .int 0), (3, .int (v3 + 1))] [] (85, I, J, R) 0 0) ∧ ((I 74 ((58 + (8 * v1)) + v3).toNatClampNeg) = (I 72 v3.toNatClampNeg) → ow_AW ow_Y0 (ow_Z Q) M_Mo_find (d + 1) 0 0 44 [(0, .ref 70), (1, .int v1), (2, .int 1), (3, .int (v3 + 1))] [] (85, I, J, R) 0 0))))))))) : ow_AW ow_Y0 (ow_Z Q) M_Mo_find (d + 1) 0 0 44 [(0, .ref 70), (1, .int v1), (2, .int v2), (3, .int v3)] [] (85, I, J, R) 0 0 := by
  refine ow_iload_n 3 rfl d_Mo_find_44 ?_
  refine ow_aload_n 0 rfl d_Mo_find_45 ?_
  refine ow_gI 177 d_Mo_find_46 rfl rfl (by decide) rfl (Or.inl rfl) ?_
  refine ow_icmp_ge (tgt := 91) d_Mo_find_49 (by decide) (fun c => ?_) (fun c => ?_)
  · replace T := T.1 c
    refine ow_iload_n 2 rfl d_Mo_find_91 ?_
    refine ow_if_eq (tgt := 97) d_Mo_find_92 (by decide) (fun c => ?_) (fun c => ?_)
    · replace T := T.1 c
      refine ow_iinc 1 (v := (v1 + 1)) (ls2 := [(1, .int (v1 + 1)), (0, .ref 70), (2, .int v2), (3, .int v3)]) d_Mo_find_97 rfl rfl (by decide) rfl ?_
      refine ow_goto (tgt := 2) d_Mo_find_100 (by decide) ?_
      refine ow_sub [1, 0] rfl ?_
      exact T
    · replace T := T.2 c
      refine ow_iload_n 1 rfl d_Mo_find_95 ?_
      exact ow_iret d_Mo_find_96 rfl T
  · replace T := T.2 c
    refine ow_iload_n 2 rfl d_Mo_find_52 ?_
    refine ow_if_eq (tgt := 91) d_Mo_find_53 (by decide) (fun c => ?_) (fun c => ?_)
    · replace T := T.1 c
      refine ow_iload_n 2 rfl d_Mo_find_91 ?_
      refine ow_if_eq (tgt := 97) d_Mo_find_92 (by decide) (fun c => ?_) (fun c => ?_)
      · replace T := T.1 c
        refine ow_iinc 1 (v := (v1 + 1)) (ls2 := [(1, .int (v1 + 1)), (0, .ref 70), (2, .int v2), (3, .int v3)]) d_Mo_find_97 rfl rfl (by decide) rfl ?_
        refine ow_goto (tgt := 2) d_Mo_find_100 (by decide) ?_
        refine ow_sub [1, 0] rfl ?_
        exact T
      · replace T := T.2 c
        refine ow_iload_n 1 rfl d_Mo_find_95 ?_
        exact ow_iret d_Mo_find_96 rfl T
    · replace T := T.2 c
      refine ow_aload_n 0 rfl d_Mo_find_56 ?_
      refine ow_gR (a := 74) 185 d_Mo_find_57 rfl rfl (by decide) rfl ⟨rfl, hR 70 16 (by decide)⟩ ?_
      refine ow_bipush (v := 58) (by decide) d_Mo_find_60 ?_
      refine ow_bipush (v := 8) (by decide) d_Mo_find_62 ?_
      refine ow_iload_n 1 rfl d_Mo_find_64 ?_
      refine ow_imul d_Mo_find_65 ?_
      refine ow_iadd d_Mo_find_66 ?_
      refine ow_iload_n 3 rfl d_Mo_find_67 ?_
      refine ow_iadd d_Mo_find_68 ?_
      obtain ⟨cI, T⟩ := T
      refine ow_hiaload d_Mo_find_69 (by decide) rfl rfl cI ?_
      refine ow_aload_n 0 rfl d_Mo_find_70 ?_
      refine ow_gR (a := 72) 181 d_Mo_find_71 rfl rfl (by decide) rfl ⟨rfl, hR 70 12 (by decide)⟩ ?_
      refine ow_iload_n 3 rfl d_Mo_find_74 ?_
      obtain ⟨cI, T⟩ := T
      refine ow_hiaload d_Mo_find_75 (by decide) rfl rfl cI ?_
      refine ow_icmp_ne (tgt := 83) d_Mo_find_76 (by decide) (fun c => ?_) (fun c => ?_)
      · replace T := T.1 c
        refine ow_iconst (v := 0) (by decide) d_Mo_find_83 ?_
        refine ow_istore_n (ls2 := [(2, .int 0), (0, .ref 70), (1, .int v1), (3, .int v3)]) d_Mo_find_84 (by decide) rfl ?_
        refine ow_iinc 3 (v := (v3 + 1)) (ls2 := [(3, .int (v3 + 1)), (2, .int 0), (0, .ref 70), (1, .int v1)]) d_Mo_find_85 rfl rfl (by decide) rfl ?_
        refine ow_goto (tgt := 44) d_Mo_find_88 (by decide) ?_
        refine ow_sub [2, 3, 1, 0] rfl ?_
        exact T
      · replace T := T.2 c
        refine ow_iconst (v := 1) (by decide) d_Mo_find_79 ?_
        refine ow_goto (tgt := 84) d_Mo_find_80 (by decide) ?_
        refine ow_istore_n (ls2 := [(2, .int 1), (0, .ref 70), (1, .int v1), (3, .int v3)]) d_Mo_find_84 (by decide) rfl ?_
        refine ow_iinc 3 (v := (v3 + 1)) (ls2 := [(3, .int (v3 + 1)), (2, .int 1), (0, .ref 70), (1, .int v1)]) d_Mo_find_85 rfl rfl (by decide) rfl ?_
        refine ow_goto (tgt := 44) d_Mo_find_88 (by decide) ?_
        refine ow_sub [2, 3, 1, 0] rfl ?_
        exact T
set_option maxRecDepth 4000 in
theorem t_Mo_find {d : Nat} {I : Nat → Nat → Int32} {J : Nat → Nat → Int64} {R : Nat → Nat → Option Nat} {Q : Option Value → ow_H → Prop}   (hR : ow_RF R) (T : ow_AW ow_Y0 (ow_Z Q) M_Mo_find (d + 1) 0 0 2 [(0, .ref 70), (1, .int 0)] [] (85, I, J, R) 0 0) : ow_AM M_Mo_find (d + 1) [.ref 70] (85, I, J, R) Q := by
  refine ow_enter (by decide) (Nat.le_of_ble_eq_true rfl) ?_
  show ow_AW ow_Y0 (ow_Z Q) M_Mo_find (d + 1) 0 0 0 [(0, .ref 70)] [] (85, I, J, R) 0 0
  refine ow_iconst (v := 0) (by decide) d_Mo_find_0 ?_
  refine ow_istore_n (ls2 := [(1, .int 0), (0, .ref 70)]) d_Mo_find_1 (by decide) rfl ?_
  refine ow_sub [1, 0] rfl ?_
  exact T
set_option maxRecDepth 4000 in
theorem t_Mo_newName_45 {d : Nat} {I : Nat → Nat → Int32} {J : Nat → Nat → Int64} {R : Nat → Nat → Option Nat} {Q : Option Value → ow_H → Prop}  {v1 : Int32} {v2 : Int32}  (hR : ow_RF R) (T : (((I 70 8) ≤ v2 → (vp_in (47 + v1) 146 ∧ (∀ (I4 : Nat → Nat → Int32), I4 = ow_u I 74 ((47 + v1).toNatClampNeg) (I 70 8) → (ow_AM M_Mo_next d [.ref 70] (85, I4, J, R) (fun r h' => ∃ (I5 : Nat → Nat → Int32) (J5 : Nat → Nat → Int64) (R5 : Nat → Nat → Option Nat), r = none ∧ h' = (85, I5, J5, R5) ∧ ow_RF R5 ∧ Q none (85, I5, J5, R5)))))) ∧ (¬ (I 70 8) ≤ v2 → (vp_in v2 8 ∧ (vp_in ((58 + (8 * v1)) + v2) 146 ∧ (∀ (I6 : Nat → Nat → Int32), I6 = ow_u I 74 (((58 + (8 * v1)) + v2).toNatClampNeg) (I 72 v2.toNatClampNeg) → ow_AW ow_Y0 (ow_Z Q) M_Mo_newName (d + 1) 0 0 45 [(0, .ref 70), (1, .int v1), (2, .int (v2 + 1))] [] (85, I6, J, R) 0 0)))))) : ow_AW ow_Y0 (ow_Z Q) M_Mo_newName (d + 1) 0 0 45 [(0, .ref 70), (1, .int v1), (2, .int v2)] [] (85, I, J, R) 0 0 := by
  refine ow_iload_n 2 rfl d_Mo_newName_45 ?_
  refine ow_aload_n 0 rfl d_Mo_newName_46 ?_
  refine ow_gI 177 d_Mo_newName_47 rfl rfl (by decide) rfl (Or.inl rfl) ?_
  refine ow_icmp_ge (tgt := 79) d_Mo_newName_50 (by decide) (fun c => ?_) (fun c => ?_)
  · replace T := T.1 c
    refine ow_aload_n 0 rfl d_Mo_newName_79 ?_
    refine ow_gR (a := 74) 185 d_Mo_newName_80 rfl rfl (by decide) rfl ⟨rfl, hR 70 16 (by decide)⟩ ?_
    refine ow_bipush (v := 47) (by decide) d_Mo_newName_83 ?_
    refine ow_iload_n 1 rfl d_Mo_newName_85 ?_
    refine ow_iadd d_Mo_newName_86 ?_
    refine ow_aload_n 0 rfl d_Mo_newName_87 ?_
    refine ow_gI 177 d_Mo_newName_88 rfl rfl (by decide) rfl (Or.inl rfl) ?_
    obtain ⟨cI, T⟩ := T
    refine ow_hiastore d_Mo_newName_91 (by decide) rfl rfl cI ?_
    obtain ⟨I4, eI4⟩ : ∃ uu, uu = ow_u I 74 ((47 + v1).toNatClampNeg) (I 70 8) := ⟨_, rfl⟩
    replace T := T I4 eI4
    rw [← eI4]
    refine ow_aload_n 0 rfl d_Mo_newName_92 ?_
    refine ow_callV (b := 70) (cq := 12) (As := []) (rest := []) (d2 := d) d_Mo_newName_93 l_Mo_112 v_Mo_next (show 70 < 85 by decide) rfl (by decide) rfl (Nat.le_of_ble_eq_true rfl) (Nat.le_refl _) ⟨Nat.le_refl _, Nat.le_refl _⟩ (ow_mono T ?_)
    rintro r h' ⟨I5, J5, R5, rfl, rfl, hR5, T⟩
    show ow_AW ow_Y0 (ow_Z Q) M_Mo_newName (d + 1) 0 0 96 [(0, .ref 70), (1, .int v1), (2, .int v2)] [] (85, I5, J5, R5) 0 0
    exact ow_vret d_Mo_newName_96 rfl T
  · replace T := T.2 c
    refine ow_aload_n 0 rfl d_Mo_newName_53 ?_
    refine ow_gR (a := 74) 185 d_Mo_newName_54 rfl rfl (by decide) rfl ⟨rfl, hR 70 16 (by decide)⟩ ?_
    refine ow_bipush (v := 58) (by decide) d_Mo_newName_57 ?_
    refine ow_bipush (v := 8) (by decide) d_Mo_newName_59 ?_
    refine ow_iload_n 1 rfl d_Mo_newName_61 ?_
    refine ow_imul d_Mo_newName_62 ?_
    refine ow_iadd d_Mo_newName_63 ?_
    refine ow_iload_n 2 rfl d_Mo_newName_64 ?_
    refine ow_iadd d_Mo_newName_65 ?_
    refine ow_aload_n 0 rfl d_Mo_newName_66 ?_
    refine ow_gR (a := 72) 181 d_Mo_newName_67 rfl rfl (by decide) rfl ⟨rfl, hR 70 12 (by decide)⟩ ?_
    refine ow_iload_n 2 rfl d_Mo_newName_70 ?_
    obtain ⟨cI, T⟩ := T
    refine ow_hiaload d_Mo_newName_71 (by decide) rfl rfl cI ?_
    obtain ⟨cI, T⟩ := T
    refine ow_hiastore d_Mo_newName_72 (by decide) rfl rfl cI ?_
    obtain ⟨I6, eI6⟩ : ∃ uu, uu = ow_u I 74 (((58 + (8 * v1)) + v2).toNatClampNeg) (I 72 v2.toNatClampNeg) := ⟨_, rfl⟩
    replace T := T I6 eI6
    rw [← eI6]
    refine ow_iinc 2 (v := (v2 + 1)) (ls2 := [(2, .int (v2 + 1)), (0, .ref 70), (1, .int v1)]) d_Mo_newName_73 rfl rfl (by decide) rfl ?_
    refine ow_goto (tgt := 45) d_Mo_newName_76 (by decide) ?_
    refine ow_sub [1, 2, 0] rfl ?_
    exact T
set_option maxRecDepth 4000 in
theorem t_Mo_newName {d : Nat} {I : Nat → Nat → Int32} {J : Nat → Nat → Int64} {R : Nat → Nat → Option Nat} {Q : Option Value → ow_H → Prop} {p1 : Int32}  (hR : ow_RF R) (T : (((I 70 13) = 0 → (ow_AM M_Mo_mustName d [.ref 70] (85, I, J, R) (fun r h' => ∃ (I7 : Nat → Nat → Int32) (J7 : Nat → Nat → Int64) (R7 : Nat → Nat → Option Nat), r = none ∧ h' = (85, I7, J7, R7) ∧ ow_RF R7 ∧ ((¬ (I7 70 13) = 0 → (((I7 70 13) = 0 → ow_AW ow_Y0 (ow_Z Q) M_Mo_newName (d + 1) 0 0 45 [(0, .ref 70), (1, .int p1), (2, .int 0)] [] (85, I7, J7, R7) 0 0) ∧ (¬ (I7 70 13) = 0 → Q none (85, I7, J7, R7)))) ∧ ((I7 70 13) = 0 → (ow_AM M_Mo_find d [.ref 70] (85, I7, J7, R7) (fun r h' => ∃ (r8 : Int32) (I8 : Nat → Nat → Int32) (J8 : Nat → Nat → Int64) (R8 : Nat → Nat → Option Nat), r = some (.int r8) ∧ h' = (85, I8, J8, R8) ∧ ow_RF R8 ∧ ((r8 < 0 → (((I8 70 13) = 0 → ow_AW ow_Y0 (ow_Z Q) M_Mo_newName (d + 1) 0 0 45 [(0, .ref 70), (1, .int p1), (2, .int 0)] [] (85, I8, J8, R8) 0 0) ∧ (¬ (I8 70 13) = 0 → Q none (85, I8, J8, R8)))) ∧ (¬ r8 < 0 → (ow_AM M_Mo_wrong d [.ref 70, .int 3, .int (I8 70 4)] (85, I8, J8, R8) (fun r h' => ∃ (I9 : Nat → Nat → Int32) (J9 : Nat → Nat → Int64) (R9 : Nat → Nat → Option Nat), r = none ∧ h' = (85, I9, J9, R9) ∧ ow_RF R9 ∧ (((I9 70 13) = 0 → ow_AW ow_Y0 (ow_Z Q) M_Mo_newName (d + 1) 0 0 45 [(0, .ref 70), (1, .int p1), (2, .int 0)] [] (85, I9, J9, R9) 0 0) ∧ (¬ (I9 70 13) = 0 → Q none (85, I9, J9, R9)))))))))))))) ∧ (¬ (I 70 13) = 0 → Q none (85, I, J, R)))) : ow_AM M_Mo_newName (d + 1) [.ref 70, .int p1] (85, I, J, R) Q := by
  refine ow_enter (by decide) (Nat.le_of_ble_eq_true rfl) ?_
  show ow_AW ow_Y0 (ow_Z Q) M_Mo_newName (d + 1) 0 0 0 [(0, .ref 70), (1, .int p1)] [] (85, I, J, R) 0 0
  refine ow_aload_n 0 rfl d_Mo_newName_0 ?_
  refine ow_gI 182 d_Mo_newName_1 rfl rfl (by decide) rfl (Or.inr rfl) ?_
  refine ow_if_eq (tgt := 8) d_Mo_newName_4 (by decide) (fun c => ?_) (fun c => ?_)
  · replace T := T.1 c
    refine ow_aload_n 0 rfl d_Mo_newName_8 ?_
    refine ow_callV (b := 70) (cq := 12) (As := []) (rest := []) (d2 := d) d_Mo_newName_9 l_Mo_136 v_Mo_mustName (show 70 < 85 by decide) rfl (by decide) rfl (Nat.le_of_ble_eq_true rfl) (Nat.le_refl _) ⟨Nat.le_refl _, Nat.le_refl _⟩ (ow_mono T ?_)
    rintro r h' ⟨I7, J7, R7, rfl, rfl, hR7, T⟩
    show ow_AW ow_Y0 (ow_Z Q) M_Mo_newName (d + 1) 0 0 12 [(0, .ref 70), (1, .int p1)] [] (85, I7, J7, R7) 0 0
    refine ow_aload_n 0 rfl d_Mo_newName_12 ?_
    refine ow_gI 182 d_Mo_newName_13 rfl rfl (by decide) rfl (Or.inr rfl) ?_
    refine ow_if_ne (tgt := 35) d_Mo_newName_16 (by decide) (fun c => ?_) (fun c => ?_)
    · replace T := T.1 c
      refine ow_aload_n 0 rfl d_Mo_newName_35 ?_
      refine ow_gI 182 d_Mo_newName_36 rfl rfl (by decide) rfl (Or.inr rfl) ?_
      refine ow_if_eq (tgt := 43) d_Mo_newName_39 (by decide) (fun c => ?_) (fun c => ?_)
      · replace T := T.1 c
        refine ow_iconst (v := 0) (by decide) d_Mo_newName_43 ?_
        refine ow_istore_n (ls2 := [(2, .int 0), (0, .ref 70), (1, .int p1)]) d_Mo_newName_44 (by decide) rfl ?_
        refine ow_sub [1, 2, 0] rfl ?_
        exact T
      · replace T := T.2 c
        exact ow_vret d_Mo_newName_42 rfl T
    · replace T := T.2 c
      refine ow_aload_n 0 rfl d_Mo_newName_19 ?_
      refine ow_callV (b := 70) (cq := 12) (As := []) (rest := []) (d2 := d) d_Mo_newName_20 l_Mo_139 v_Mo_find (show 70 < 85 by decide) rfl (by decide) rfl (Nat.le_of_ble_eq_true rfl) (Nat.le_refl _) ⟨Nat.le_refl _, Nat.le_refl _⟩ (ow_mono T ?_)
      rintro r h' ⟨r8, I8, J8, R8, rfl, rfl, hR8, T⟩
      show ow_AW ow_Y0 (ow_Z Q) M_Mo_newName (d + 1) 0 0 23 [(0, .ref 70), (1, .int p1)] [.int r8] (85, I8, J8, R8) 0 0
      refine ow_if_lt (tgt := 35) d_Mo_newName_23 (by decide) (fun c => ?_) (fun c => ?_)
      · replace T := T.1 c
        refine ow_aload_n 0 rfl d_Mo_newName_35 ?_
        refine ow_gI 182 d_Mo_newName_36 rfl rfl (by decide) rfl (Or.inr rfl) ?_
        refine ow_if_eq (tgt := 43) d_Mo_newName_39 (by decide) (fun c => ?_) (fun c => ?_)
        · replace T := T.1 c
          refine ow_iconst (v := 0) (by decide) d_Mo_newName_43 ?_
          refine ow_istore_n (ls2 := [(2, .int 0), (0, .ref 70), (1, .int p1)]) d_Mo_newName_44 (by decide) rfl ?_
          refine ow_sub [1, 2, 0] rfl ?_
          exact T
        · replace T := T.2 c
          exact ow_vret d_Mo_newName_42 rfl T
      · replace T := T.2 c
        refine ow_aload_n 0 rfl d_Mo_newName_26 ?_
        refine ow_iconst (v := 3) (by decide) d_Mo_newName_27 ?_
        refine ow_aload_n 0 rfl d_Mo_newName_28 ?_
        refine ow_gI 173 d_Mo_newName_29 rfl rfl (by decide) rfl (Or.inl rfl) ?_
        refine ow_callV (b := 70) (cq := 12) (As := [.int 3, .int (I8 70 4)]) (rest := []) (d2 := d) d_Mo_newName_32 l_Mo_118 v_Mo_wrong (show 70 < 85 by decide) rfl (by decide) rfl (Nat.le_of_ble_eq_true rfl) (Nat.le_refl _) ⟨Nat.le_refl _, Nat.le_refl _⟩ (ow_mono T ?_)
        rintro r h' ⟨I9, J9, R9, rfl, rfl, hR9, T⟩
        show ow_AW ow_Y0 (ow_Z Q) M_Mo_newName (d + 1) 0 0 35 [(0, .ref 70), (1, .int p1)] [] (85, I9, J9, R9) 0 0
        refine ow_aload_n 0 rfl d_Mo_newName_35 ?_
        refine ow_gI 182 d_Mo_newName_36 rfl rfl (by decide) rfl (Or.inr rfl) ?_
        refine ow_if_eq (tgt := 43) d_Mo_newName_39 (by decide) (fun c => ?_) (fun c => ?_)
        · replace T := T.1 c
          refine ow_iconst (v := 0) (by decide) d_Mo_newName_43 ?_
          refine ow_istore_n (ls2 := [(2, .int 0), (0, .ref 70), (1, .int p1)]) d_Mo_newName_44 (by decide) rfl ?_
          refine ow_sub [1, 2, 0] rfl ?_
          exact T
        · replace T := T.2 c
          exact ow_vret d_Mo_newName_42 rfl T
  · replace T := T.2 c
    exact ow_vret d_Mo_newName_7 rfl T
set_option maxRecDepth 4000 in
theorem t_Mo_follyHere {d : Nat} {I : Nat → Nat → Int32} {J : Nat → Nat → Int64} {R : Nat → Nat → Option Nat} {Q : Option Value → ow_H → Prop}   (hR : ow_RF R) (T : (((I 70 13) = 0 → (ow_AM M_Mo_mustName d [.ref 70] (85, I, J, R) (fun r h' => ∃ (I5 : Nat → Nat → Int32) (J5 : Nat → Nat → Int64) (R5 : Nat → Nat → Option Nat), r = none ∧ h' = (85, I5, J5, R5) ∧ ow_RF R5 ∧ (((I5 70 13) = 0 → (ow_AM M_Mo_find d [.ref 70] (85, I5, J5, R5) (fun r h' => ∃ (r6 : Int32) (I6 : Nat → Nat → Int32) (J6 : Nat → Nat → Int64) (R6 : Nat → Nat → Option Nat), r = some (.int r6) ∧ h' = (85, I6, J6, R6) ∧ ow_RF R6 ∧ (ow_AM M_Mo_in d [.int r6, .int 0, .int 5] (85, I6, J6, R6) (fun r h' => ∃ (r7 : Int32) (I7 : Nat → Nat → Int32) (J7 : Nat → Nat → Int64) (R7 : Nat → Nat → Option Nat), r = some (.int r7) ∧ h' = (85, I7, J7, R7) ∧ ow_RF R7 ∧ ((¬ r7 = 0 → (((I7 70 13) = 0 → Q (some (.int r6)) (85, I7, J7, R7)) ∧ (¬ (I7 70 13) = 0 → Q (some (.int 0)) (85, I7, J7, R7)))) ∧ (r7 = 0 → (ow_AM M_Mo_wrong d [.ref 70, .int 2, .int (I7 70 4)] (85, I7, J7, R7) (fun r h' => ∃ (I8 : Nat → Nat → Int32) (J8 : Nat → Nat → Int64) (R8 : Nat → Nat → Option Nat), r = none ∧ h' = (85, I8, J8, R8) ∧ ow_RF R8 ∧ (((I8 70 13) = 0 → Q (some (.int r6)) (85, I8, J8, R8)) ∧ (¬ (I8 70 13) = 0 → Q (some (.int 0)) (85, I8, J8, R8)))))))))))) ∧ (¬ (I5 70 13) = 0 → Q (some (.int 0)) (85, I5, J5, R5)))))) ∧ (¬ (I 70 13) = 0 → Q (some (.int 0)) (85, I, J, R)))) : ow_AM M_Mo_follyHere (d + 1) [.ref 70] (85, I, J, R) Q := by
  refine ow_enter (by decide) (Nat.le_of_ble_eq_true rfl) ?_
  show ow_AW ow_Y0 (ow_Z Q) M_Mo_follyHere (d + 1) 0 0 0 [(0, .ref 70)] [] (85, I, J, R) 0 0
  refine ow_aload_n 0 rfl d_Mo_follyHere_0 ?_
  refine ow_gI 182 d_Mo_follyHere_1 rfl rfl (by decide) rfl (Or.inr rfl) ?_
  refine ow_if_eq (tgt := 9) d_Mo_follyHere_4 (by decide) (fun c => ?_) (fun c => ?_)
  · replace T := T.1 c
    refine ow_aload_n 0 rfl d_Mo_follyHere_9 ?_
    refine ow_callV (b := 70) (cq := 12) (As := []) (rest := []) (d2 := d) d_Mo_follyHere_10 l_Mo_136 v_Mo_mustName (show 70 < 85 by decide) rfl (by decide) rfl (Nat.le_of_ble_eq_true rfl) (Nat.le_refl _) ⟨Nat.le_refl _, Nat.le_refl _⟩ (ow_mono T ?_)
    rintro r h' ⟨I5, J5, R5, rfl, rfl, hR5, T⟩
    show ow_AW ow_Y0 (ow_Z Q) M_Mo_follyHere (d + 1) 0 0 13 [(0, .ref 70)] [] (85, I5, J5, R5) 0 0
    refine ow_aload_n 0 rfl d_Mo_follyHere_13 ?_
    refine ow_gI 182 d_Mo_follyHere_14 rfl rfl (by decide) rfl (Or.inr rfl) ?_
    refine ow_if_eq (tgt := 22) d_Mo_follyHere_17 (by decide) (fun c => ?_) (fun c => ?_)
    · replace T := T.1 c
      refine ow_aload_n 0 rfl d_Mo_follyHere_22 ?_
      refine ow_callV (b := 70) (cq := 12) (As := []) (rest := []) (d2 := d) d_Mo_follyHere_23 l_Mo_139 v_Mo_find (show 70 < 85 by decide) rfl (by decide) rfl (Nat.le_of_ble_eq_true rfl) (Nat.le_refl _) ⟨Nat.le_refl _, Nat.le_refl _⟩ (ow_mono T ?_)
      rintro r h' ⟨r6, I6, J6, R6, rfl, rfl, hR6, T⟩
      show ow_AW ow_Y0 (ow_Z Q) M_Mo_follyHere (d + 1) 0 0 26 [(0, .ref 70)] [.int r6] (85, I6, J6, R6) 0 0
      refine ow_istore_n (ls2 := [(1, .int r6), (0, .ref 70)]) d_Mo_follyHere_26 (by decide) rfl ?_
      refine ow_iload_n 0 rfl d_Mo_follyHere_27 ?_
      refine ow_iconst (v := 0) (by decide) d_Mo_follyHere_28 ?_
      refine ow_iconst (v := 5) (by decide) d_Mo_follyHere_29 ?_
      refine ow_callS (As := [.int r6, .int 0, .int 5]) (rest := []) (d2 := d) d_Mo_follyHere_30 l_Mo_142 v_Mo_in (Nat.le_of_ble_eq_true rfl) (Nat.le_refl _) ⟨Nat.le_refl _, Nat.le_refl _⟩ (ow_mono T ?_)
      rintro r h' ⟨r7, I7, J7, R7, rfl, rfl, hR7, T⟩
      show ow_AW ow_Y0 (ow_Z Q) M_Mo_follyHere (d + 1) 0 0 33 [(1, .int r6), (0, .ref 70)] [.int r7] (85, I7, J7, R7) 0 0
      refine ow_if_ne (tgt := 45) d_Mo_follyHere_33 (by decide) (fun c => ?_) (fun c => ?_)
      · replace T := T.1 c
        refine ow_aload_n 1 rfl d_Mo_follyHere_45 ?_
        refine ow_gI 182 d_Mo_follyHere_46 rfl rfl (by decide) rfl (Or.inr rfl) ?_
        refine ow_if_eq (tgt := 56) d_Mo_follyHere_49 (by decide) (fun c => ?_) (fun c => ?_)
        · replace T := T.1 c
          refine ow_iload_n 0 rfl d_Mo_follyHere_56 ?_
          exact ow_iret d_Mo_follyHere_57 rfl T
        · replace T := T.2 c
          refine ow_iconst (v := 0) (by decide) d_Mo_follyHere_52 ?_
          refine ow_goto (tgt := 57) d_Mo_follyHere_53 (by decide) ?_
          exact ow_iret d_Mo_follyHere_57 rfl T
      · replace T := T.2 c
        refine ow_aload_n 1 rfl d_Mo_follyHere_36 ?_
        refine ow_iconst (v := 2) (by decide) d_Mo_follyHere_37 ?_
        refine ow_aload_n 1 rfl d_Mo_follyHere_38 ?_
        refine ow_gI 173 d_Mo_follyHere_39 rfl rfl (by decide) rfl (Or.inl rfl) ?_
        refine ow_callV (b := 70) (cq := 12) (As := [.int 2, .int (I7 70 4)]) (rest := []) (d2 := d) d_Mo_follyHere_42 l_Mo_118 v_Mo_wrong (show 70 < 85 by decide) rfl (by decide) rfl (Nat.le_of_ble_eq_true rfl) (Nat.le_refl _) ⟨Nat.le_refl _, Nat.le_refl _⟩ (ow_mono T ?_)
        rintro r h' ⟨I8, J8, R8, rfl, rfl, hR8, T⟩
        show ow_AW ow_Y0 (ow_Z Q) M_Mo_follyHere (d + 1) 0 0 45 [(1, .int r6), (0, .ref 70)] [] (85, I8, J8, R8) 0 0
        refine ow_aload_n 1 rfl d_Mo_follyHere_45 ?_
        refine ow_gI 182 d_Mo_follyHere_46 rfl rfl (by decide) rfl (Or.inr rfl) ?_
        refine ow_if_eq (tgt := 56) d_Mo_follyHere_49 (by decide) (fun c => ?_) (fun c => ?_)
        · replace T := T.1 c
          refine ow_iload_n 0 rfl d_Mo_follyHere_56 ?_
          exact ow_iret d_Mo_follyHere_57 rfl T
        · replace T := T.2 c
          refine ow_iconst (v := 0) (by decide) d_Mo_follyHere_52 ?_
          refine ow_goto (tgt := 57) d_Mo_follyHere_53 (by decide) ?_
          exact ow_iret d_Mo_follyHere_57 rfl T
    · replace T := T.2 c
      refine ow_iconst (v := 0) (by decide) d_Mo_follyHere_20 ?_
      exact ow_iret d_Mo_follyHere_21 rfl T
  · replace T := T.2 c
    refine ow_iconst (v := 0) (by decide) d_Mo_follyHere_7 ?_
    exact ow_iret d_Mo_follyHere_8 rfl T
set_option maxRecDepth 4000 in
theorem t_Mo_pass {d : Nat} {I : Nat → Nat → Int32} {J : Nat → Nat → Int64} {R : Nat → Nat → Option Nat} {Q : Option Value → ow_H → Prop}   (hR : ow_RF R) (T : ((¬ (I 70 13) = 0 → Q none (85, I, J, R)) ∧ ((I 70 13) = 0 → (ow_AM M_Mo_next d [.ref 70] (85, I, J, R) (fun r h' => ∃ (I2 : Nat → Nat → Int32) (J2 : Nat → Nat → Int64) (R2 : Nat → Nat → Option Nat), r = none ∧ h' = (85, I2, J2, R2) ∧ ow_RF R2 ∧ Q none (85, I2, J2, R2)))))) : ow_AM M_Mo_pass (d + 1) [.ref 70] (85, I, J, R) Q := by
  refine ow_enter (by decide) (Nat.le_of_ble_eq_true rfl) ?_
  show ow_AW ow_Y0 (ow_Z Q) M_Mo_pass (d + 1) 0 0 0 [(0, .ref 70)] [] (85, I, J, R) 0 0
  refine ow_aload_n 0 rfl d_Mo_pass_0 ?_
  refine ow_gI 182 d_Mo_pass_1 rfl rfl (by decide) rfl (Or.inr rfl) ?_
  refine ow_if_ne (tgt := 11) d_Mo_pass_4 (by decide) (fun c => ?_) (fun c => ?_)
  · replace T := T.1 c
    exact ow_vret d_Mo_pass_11 rfl T
  · replace T := T.2 c
    refine ow_aload_n 0 rfl d_Mo_pass_7 ?_
    refine ow_callV (b := 70) (cq := 12) (As := []) (rest := []) (d2 := d) d_Mo_pass_8 l_Mo_112 v_Mo_next (show 70 < 85 by decide) rfl (by decide) rfl (Nat.le_of_ble_eq_true rfl) (Nat.le_refl _) ⟨Nat.le_refl _, Nat.le_refl _⟩ (ow_mono T ?_)
    rintro r h' ⟨I2, J2, R2, rfl, rfl, hR2, T⟩
    show ow_AW ow_Y0 (ow_Z Q) M_Mo_pass (d + 1) 0 0 11 [(0, .ref 70)] [] (85, I2, J2, R2) 0 0
    exact ow_vret d_Mo_pass_11 rfl T
