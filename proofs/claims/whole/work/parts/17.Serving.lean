/-! Own rows, by program: Serving_bitsServed Serving_countServed Serving_bitsSigning Serving_lettersFor Serving_findShortest Serving_findWidest Serving_findChange Serving_fewestKept Serving_mostNeeded Serving_bitsServedBy -/
theorem d_Serving_bitsServed_0 : decode M_Serving_bitsServed.2.1 0 = .ok (.iconst 0, 1) := by decide +kernel
theorem d_Serving_bitsServed_1 : decode M_Serving_bitsServed.2.1 1 = .ok (.istore_n 2, 1) := by decide +kernel
theorem d_Serving_bitsServed_2 : decode M_Serving_bitsServed.2.1 2 = .ok (.iconst 0, 1) := by decide +kernel
theorem d_Serving_bitsServed_3 : decode M_Serving_bitsServed.2.1 3 = .ok (.istore_n 3, 1) := by decide +kernel
theorem d_Serving_bitsServed_4 : decode M_Serving_bitsServed.2.1 4 = .ok (.iload_n 3, 1) := by decide +kernel
theorem d_Serving_bitsServed_5 : decode M_Serving_bitsServed.2.1 5 = .ok (.iconst 2, 1) := by decide +kernel
theorem d_Serving_bitsServed_6 : decode M_Serving_bitsServed.2.1 6 = .ok (.aload_n 1, 1) := by decide +kernel
theorem d_Serving_bitsServed_7 : decode M_Serving_bitsServed.2.1 7 = .ok (.getfield 29, 3) := by decide +kernel
theorem d_Serving_bitsServed_10 : decode M_Serving_bitsServed.2.1 10 = .ok (.imul, 1) := by decide +kernel
theorem d_Serving_bitsServed_11 : decode M_Serving_bitsServed.2.1 11 = .ok (.if_icmp .ge 18, 3) := by decide +kernel
theorem d_Serving_bitsServed_14 : decode M_Serving_bitsServed.2.1 14 = .ok (.iload_n 2, 1) := by decide +kernel
theorem d_Serving_bitsServed_15 : decode M_Serving_bitsServed.2.1 15 = .ok (.aload_n 0, 1) := by decide +kernel
theorem d_Serving_bitsServed_16 : decode M_Serving_bitsServed.2.1 16 = .ok (.aload_n 1, 1) := by decide +kernel
theorem d_Serving_bitsServed_17 : decode M_Serving_bitsServed.2.1 17 = .ok (.iload_n 3, 1) := by decide +kernel
theorem d_Serving_bitsServed_18 : decode M_Serving_bitsServed.2.1 18 = .ok (.invokevirtual 33, 3) := by decide +kernel
theorem d_Serving_bitsServed_21 : decode M_Serving_bitsServed.2.1 21 = .ok (.ior, 1) := by decide +kernel
theorem d_Serving_bitsServed_22 : decode M_Serving_bitsServed.2.1 22 = .ok (.istore_n 2, 1) := by decide +kernel
theorem d_Serving_bitsServed_23 : decode M_Serving_bitsServed.2.1 23 = .ok (.iinc 3 1, 3) := by decide +kernel
theorem d_Serving_bitsServed_26 : decode M_Serving_bitsServed.2.1 26 = .ok (.goto (-22), 3) := by decide +kernel
theorem d_Serving_bitsServed_29 : decode M_Serving_bitsServed.2.1 29 = .ok (.iload_n 2, 1) := by decide +kernel
theorem d_Serving_bitsServed_30 : decode M_Serving_bitsServed.2.1 30 = .ok (.ireturn, 1) := by decide +kernel
theorem d_Serving_countServed_0 : decode M_Serving_countServed.2.1 0 = .ok (.aload_n 0, 1) := by decide +kernel
theorem d_Serving_countServed_1 : decode M_Serving_countServed.2.1 1 = .ok (.aload_n 1, 1) := by decide +kernel
theorem d_Serving_countServed_2 : decode M_Serving_countServed.2.1 2 = .ok (.invokevirtual 37, 3) := by decide +kernel
theorem d_Serving_countServed_5 : decode M_Serving_countServed.2.1 5 = .ok (.invokestatic 41, 3) := by decide +kernel
theorem d_Serving_countServed_8 : decode M_Serving_countServed.2.1 8 = .ok (.ireturn, 1) := by decide +kernel
theorem d_Serving_bitsSigning_0 : decode M_Serving_bitsSigning.2.1 0 = .ok (.iconst 0, 1) := by decide +kernel
theorem d_Serving_bitsSigning_1 : decode M_Serving_bitsSigning.2.1 1 = .ok (.istore_n 2, 1) := by decide +kernel
theorem d_Serving_bitsSigning_2 : decode M_Serving_bitsSigning.2.1 2 = .ok (.iconst 0, 1) := by decide +kernel
theorem d_Serving_bitsSigning_3 : decode M_Serving_bitsSigning.2.1 3 = .ok (.istore_n 3, 1) := by decide +kernel
theorem d_Serving_bitsSigning_4 : decode M_Serving_bitsSigning.2.1 4 = .ok (.iload_n 3, 1) := by decide +kernel
theorem d_Serving_bitsSigning_5 : decode M_Serving_bitsSigning.2.1 5 = .ok (.iconst 2, 1) := by decide +kernel
theorem d_Serving_bitsSigning_6 : decode M_Serving_bitsSigning.2.1 6 = .ok (.aload_n 1, 1) := by decide +kernel
theorem d_Serving_bitsSigning_7 : decode M_Serving_bitsSigning.2.1 7 = .ok (.getfield 29, 3) := by decide +kernel
theorem d_Serving_bitsSigning_10 : decode M_Serving_bitsSigning.2.1 10 = .ok (.imul, 1) := by decide +kernel
theorem d_Serving_bitsSigning_11 : decode M_Serving_bitsSigning.2.1 11 = .ok (.if_icmp .ge 55, 3) := by decide +kernel
theorem d_Serving_bitsSigning_14 : decode M_Serving_bitsSigning.2.1 14 = .ok (.aload_n 0, 1) := by decide +kernel
theorem d_Serving_bitsSigning_15 : decode M_Serving_bitsSigning.2.1 15 = .ok (.getfield 12, 3) := by decide +kernel
theorem d_Serving_bitsSigning_18 : decode M_Serving_bitsSigning.2.1 18 = .ok (.aload_n 1, 1) := by decide +kernel
theorem d_Serving_bitsSigning_19 : decode M_Serving_bitsSigning.2.1 19 = .ok (.iload_n 3, 1) := by decide +kernel
theorem d_Serving_bitsSigning_20 : decode M_Serving_bitsSigning.2.1 20 = .ok (.iconst 1, 1) := by decide +kernel
theorem d_Serving_bitsSigning_21 : decode M_Serving_bitsSigning.2.1 21 = .ok (.ishr, 1) := by decide +kernel
theorem d_Serving_bitsSigning_22 : decode M_Serving_bitsSigning.2.1 22 = .ok (.iload_n 3, 1) := by decide +kernel
theorem d_Serving_bitsSigning_23 : decode M_Serving_bitsSigning.2.1 23 = .ok (.iconst 1, 1) := by decide +kernel
theorem d_Serving_bitsSigning_24 : decode M_Serving_bitsSigning.2.1 24 = .ok (.iand, 1) := by decide +kernel
theorem d_Serving_bitsSigning_25 : decode M_Serving_bitsSigning.2.1 25 = .ok (.ifCond .eq 7, 3) := by decide +kernel
theorem d_Serving_bitsSigning_28 : decode M_Serving_bitsSigning.2.1 28 = .ok (.iconst 1, 1) := by decide +kernel
theorem d_Serving_bitsSigning_29 : decode M_Serving_bitsSigning.2.1 29 = .ok (.goto 4, 3) := by decide +kernel
theorem d_Serving_bitsSigning_32 : decode M_Serving_bitsSigning.2.1 32 = .ok (.iconst 0, 1) := by decide +kernel
theorem d_Serving_bitsSigning_33 : decode M_Serving_bitsSigning.2.1 33 = .ok (.invokevirtual 47, 3) := by decide +kernel
theorem d_Serving_bitsSigning_36 : decode M_Serving_bitsSigning.2.1 36 = .ok (.aload_n 0, 1) := by decide +kernel
theorem d_Serving_bitsSigning_37 : decode M_Serving_bitsSigning.2.1 37 = .ok (.getfield 12, 3) := by decide +kernel
theorem d_Serving_bitsSigning_40 : decode M_Serving_bitsSigning.2.1 40 = .ok (.getfield 51, 3) := by decide +kernel
theorem d_Serving_bitsSigning_43 : decode M_Serving_bitsSigning.2.1 43 = .ok (.bipush (-2), 2) := by decide +kernel
theorem d_Serving_bitsSigning_45 : decode M_Serving_bitsSigning.2.1 45 = .ok (.if_icmp .eq 15, 3) := by decide +kernel
theorem d_Serving_bitsSigning_48 : decode M_Serving_bitsSigning.2.1 48 = .ok (.iload_n 2, 1) := by decide +kernel
theorem d_Serving_bitsSigning_49 : decode M_Serving_bitsSigning.2.1 49 = .ok (.iconst 1, 1) := by decide +kernel
theorem d_Serving_bitsSigning_50 : decode M_Serving_bitsSigning.2.1 50 = .ok (.aload_n 0, 1) := by decide +kernel
theorem d_Serving_bitsSigning_51 : decode M_Serving_bitsSigning.2.1 51 = .ok (.getfield 12, 3) := by decide +kernel
theorem d_Serving_bitsSigning_54 : decode M_Serving_bitsSigning.2.1 54 = .ok (.getfield 51, 3) := by decide +kernel
theorem d_Serving_bitsSigning_57 : decode M_Serving_bitsSigning.2.1 57 = .ok (.ishl, 1) := by decide +kernel
theorem d_Serving_bitsSigning_58 : decode M_Serving_bitsSigning.2.1 58 = .ok (.ior, 1) := by decide +kernel
theorem d_Serving_bitsSigning_59 : decode M_Serving_bitsSigning.2.1 59 = .ok (.istore_n 2, 1) := by decide +kernel
theorem d_Serving_bitsSigning_60 : decode M_Serving_bitsSigning.2.1 60 = .ok (.iinc 3 1, 3) := by decide +kernel
theorem d_Serving_bitsSigning_63 : decode M_Serving_bitsSigning.2.1 63 = .ok (.goto (-59), 3) := by decide +kernel
theorem d_Serving_bitsSigning_66 : decode M_Serving_bitsSigning.2.1 66 = .ok (.iload_n 2, 1) := by decide +kernel
theorem d_Serving_bitsSigning_67 : decode M_Serving_bitsSigning.2.1 67 = .ok (.ireturn, 1) := by decide +kernel
theorem d_Serving_lettersFor_0 : decode M_Serving_lettersFor.2.1 0 = .ok (.iconst 0, 1) := by decide +kernel
theorem d_Serving_lettersFor_1 : decode M_Serving_lettersFor.2.1 1 = .ok (.istore_n 3, 1) := by decide +kernel
theorem d_Serving_lettersFor_2 : decode M_Serving_lettersFor.2.1 2 = .ok (.iconst 0, 1) := by decide +kernel
theorem d_Serving_lettersFor_3 : decode M_Serving_lettersFor.2.1 3 = .ok (.istore 4, 2) := by decide +kernel
theorem d_Serving_lettersFor_5 : decode M_Serving_lettersFor.2.1 5 = .ok (.iload 4, 2) := by decide +kernel
theorem d_Serving_lettersFor_7 : decode M_Serving_lettersFor.2.1 7 = .ok (.iconst 2, 1) := by decide +kernel
theorem d_Serving_lettersFor_8 : decode M_Serving_lettersFor.2.1 8 = .ok (.aload_n 1, 1) := by decide +kernel
theorem d_Serving_lettersFor_9 : decode M_Serving_lettersFor.2.1 9 = .ok (.getfield 29, 3) := by decide +kernel
theorem d_Serving_lettersFor_12 : decode M_Serving_lettersFor.2.1 12 = .ok (.imul, 1) := by decide +kernel
theorem d_Serving_lettersFor_13 : decode M_Serving_lettersFor.2.1 13 = .ok (.if_icmp .ge 30, 3) := by decide +kernel
theorem d_Serving_lettersFor_16 : decode M_Serving_lettersFor.2.1 16 = .ok (.aload_n 0, 1) := by decide +kernel
theorem d_Serving_lettersFor_17 : decode M_Serving_lettersFor.2.1 17 = .ok (.aload_n 1, 1) := by decide +kernel
theorem d_Serving_lettersFor_18 : decode M_Serving_lettersFor.2.1 18 = .ok (.iload 4, 2) := by decide +kernel
theorem d_Serving_lettersFor_20 : decode M_Serving_lettersFor.2.1 20 = .ok (.invokevirtual 33, 3) := by decide +kernel
theorem d_Serving_lettersFor_23 : decode M_Serving_lettersFor.2.1 23 = .ok (.iload_n 2, 1) := by decide +kernel
theorem d_Serving_lettersFor_24 : decode M_Serving_lettersFor.2.1 24 = .ok (.ishr, 1) := by decide +kernel
theorem d_Serving_lettersFor_25 : decode M_Serving_lettersFor.2.1 25 = .ok (.iconst 1, 1) := by decide +kernel
theorem d_Serving_lettersFor_26 : decode M_Serving_lettersFor.2.1 26 = .ok (.iand, 1) := by decide +kernel
theorem d_Serving_lettersFor_27 : decode M_Serving_lettersFor.2.1 27 = .ok (.ifCond .eq 10, 3) := by decide +kernel
theorem d_Serving_lettersFor_30 : decode M_Serving_lettersFor.2.1 30 = .ok (.iload_n 3, 1) := by decide +kernel
theorem d_Serving_lettersFor_31 : decode M_Serving_lettersFor.2.1 31 = .ok (.iconst 1, 1) := by decide +kernel
theorem d_Serving_lettersFor_32 : decode M_Serving_lettersFor.2.1 32 = .ok (.iload 4, 2) := by decide +kernel
theorem d_Serving_lettersFor_34 : decode M_Serving_lettersFor.2.1 34 = .ok (.ishl, 1) := by decide +kernel
theorem d_Serving_lettersFor_35 : decode M_Serving_lettersFor.2.1 35 = .ok (.ior, 1) := by decide +kernel
theorem d_Serving_lettersFor_36 : decode M_Serving_lettersFor.2.1 36 = .ok (.istore_n 3, 1) := by decide +kernel
theorem d_Serving_lettersFor_37 : decode M_Serving_lettersFor.2.1 37 = .ok (.iinc 4 1, 3) := by decide +kernel
theorem d_Serving_lettersFor_40 : decode M_Serving_lettersFor.2.1 40 = .ok (.goto (-35), 3) := by decide +kernel
theorem d_Serving_lettersFor_43 : decode M_Serving_lettersFor.2.1 43 = .ok (.iload_n 3, 1) := by decide +kernel
theorem d_Serving_lettersFor_44 : decode M_Serving_lettersFor.2.1 44 = .ok (.ireturn, 1) := by decide +kernel
theorem d_Serving_findShortest_0 : decode M_Serving_findShortest.2.1 0 = .ok (.aload_n 0, 1) := by decide +kernel
theorem d_Serving_findShortest_1 : decode M_Serving_findShortest.2.1 1 = .ok (.bipush (-2), 2) := by decide +kernel
theorem d_Serving_findShortest_3 : decode M_Serving_findShortest.2.1 3 = .ok (.putfield 54, 3) := by decide +kernel
theorem d_Serving_findShortest_6 : decode M_Serving_findShortest.2.1 6 = .ok (.aload_n 0, 1) := by decide +kernel
theorem d_Serving_findShortest_7 : decode M_Serving_findShortest.2.1 7 = .ok (.bipush (-2), 2) := by decide +kernel
theorem d_Serving_findShortest_9 : decode M_Serving_findShortest.2.1 9 = .ok (.putfield 57, 3) := by decide +kernel
theorem d_Serving_findShortest_12 : decode M_Serving_findShortest.2.1 12 = .ok (.iconst 0, 1) := by decide +kernel
theorem d_Serving_findShortest_13 : decode M_Serving_findShortest.2.1 13 = .ok (.istore_n 3, 1) := by decide +kernel
theorem d_Serving_findShortest_14 : decode M_Serving_findShortest.2.1 14 = .ok (.iload_n 3, 1) := by decide +kernel
theorem d_Serving_findShortest_15 : decode M_Serving_findShortest.2.1 15 = .ok (.iconst 2, 1) := by decide +kernel
theorem d_Serving_findShortest_16 : decode M_Serving_findShortest.2.1 16 = .ok (.aload_n 1, 1) := by decide +kernel
theorem d_Serving_findShortest_17 : decode M_Serving_findShortest.2.1 17 = .ok (.getfield 29, 3) := by decide +kernel
theorem d_Serving_findShortest_20 : decode M_Serving_findShortest.2.1 20 = .ok (.imul, 1) := by decide +kernel
theorem d_Serving_findShortest_21 : decode M_Serving_findShortest.2.1 21 = .ok (.if_icmp .ge 73, 3) := by decide +kernel
theorem d_Serving_findShortest_24 : decode M_Serving_findShortest.2.1 24 = .ok (.aload_n 0, 1) := by decide +kernel
theorem d_Serving_findShortest_25 : decode M_Serving_findShortest.2.1 25 = .ok (.aload_n 1, 1) := by decide +kernel
theorem d_Serving_findShortest_26 : decode M_Serving_findShortest.2.1 26 = .ok (.iload_n 3, 1) := by decide +kernel
theorem d_Serving_findShortest_27 : decode M_Serving_findShortest.2.1 27 = .ok (.invokevirtual 33, 3) := by decide +kernel
theorem d_Serving_findShortest_30 : decode M_Serving_findShortest.2.1 30 = .ok (.iload_n 2, 1) := by decide +kernel
theorem d_Serving_findShortest_31 : decode M_Serving_findShortest.2.1 31 = .ok (.ishr, 1) := by decide +kernel
theorem d_Serving_findShortest_32 : decode M_Serving_findShortest.2.1 32 = .ok (.iconst 1, 1) := by decide +kernel
theorem d_Serving_findShortest_33 : decode M_Serving_findShortest.2.1 33 = .ok (.iand, 1) := by decide +kernel
theorem d_Serving_findShortest_34 : decode M_Serving_findShortest.2.1 34 = .ok (.ifCond .eq 7, 3) := by decide +kernel
theorem d_Serving_findShortest_37 : decode M_Serving_findShortest.2.1 37 = .ok (.iconst 1, 1) := by decide +kernel
theorem d_Serving_findShortest_38 : decode M_Serving_findShortest.2.1 38 = .ok (.goto 4, 3) := by decide +kernel
theorem d_Serving_findShortest_41 : decode M_Serving_findShortest.2.1 41 = .ok (.iconst 0, 1) := by decide +kernel
theorem d_Serving_findShortest_42 : decode M_Serving_findShortest.2.1 42 = .ok (.istore 4, 2) := by decide +kernel
theorem d_Serving_findShortest_44 : decode M_Serving_findShortest.2.1 44 = .ok (.iload 4, 2) := by decide +kernel
theorem d_Serving_findShortest_46 : decode M_Serving_findShortest.2.1 46 = .ok (.ifCond .eq 42, 3) := by decide +kernel
theorem d_Serving_findShortest_49 : decode M_Serving_findShortest.2.1 49 = .ok (.aload_n 0, 1) := by decide +kernel
theorem d_Serving_findShortest_50 : decode M_Serving_findShortest.2.1 50 = .ok (.getfield 54, 3) := by decide +kernel
theorem d_Serving_findShortest_53 : decode M_Serving_findShortest.2.1 53 = .ok (.bipush (-2), 2) := by decide +kernel
theorem d_Serving_findShortest_55 : decode M_Serving_findShortest.2.1 55 = .ok (.if_icmp .eq 17, 3) := by decide +kernel
theorem d_Serving_findShortest_58 : decode M_Serving_findShortest.2.1 58 = .ok (.aload_n 0, 1) := by decide +kernel
theorem d_Serving_findShortest_59 : decode M_Serving_findShortest.2.1 59 = .ok (.getfield 12, 3) := by decide +kernel
theorem d_Serving_findShortest_62 : decode M_Serving_findShortest.2.1 62 = .ok (.getfield 60, 3) := by decide +kernel
theorem d_Serving_findShortest_65 : decode M_Serving_findShortest.2.1 65 = .ok (.aload_n 0, 1) := by decide +kernel
theorem d_Serving_findShortest_66 : decode M_Serving_findShortest.2.1 66 = .ok (.getfield 57, 3) := by decide +kernel
theorem d_Serving_findShortest_69 : decode M_Serving_findShortest.2.1 69 = .ok (.if_icmp .ge 19, 3) := by decide +kernel
theorem d_Serving_findShortest_72 : decode M_Serving_findShortest.2.1 72 = .ok (.aload_n 0, 1) := by decide +kernel
theorem d_Serving_findShortest_73 : decode M_Serving_findShortest.2.1 73 = .ok (.iload_n 3, 1) := by decide +kernel
theorem d_Serving_findShortest_74 : decode M_Serving_findShortest.2.1 74 = .ok (.putfield 54, 3) := by decide +kernel
theorem d_Serving_findShortest_77 : decode M_Serving_findShortest.2.1 77 = .ok (.aload_n 0, 1) := by decide +kernel
theorem d_Serving_findShortest_78 : decode M_Serving_findShortest.2.1 78 = .ok (.aload_n 0, 1) := by decide +kernel
theorem d_Serving_findShortest_79 : decode M_Serving_findShortest.2.1 79 = .ok (.getfield 12, 3) := by decide +kernel
theorem d_Serving_findShortest_82 : decode M_Serving_findShortest.2.1 82 = .ok (.getfield 60, 3) := by decide +kernel
theorem d_Serving_findShortest_85 : decode M_Serving_findShortest.2.1 85 = .ok (.putfield 57, 3) := by decide +kernel
theorem d_Serving_findShortest_88 : decode M_Serving_findShortest.2.1 88 = .ok (.iinc 3 1, 3) := by decide +kernel
theorem d_Serving_findShortest_91 : decode M_Serving_findShortest.2.1 91 = .ok (.goto (-77), 3) := by decide +kernel
theorem d_Serving_findShortest_94 : decode M_Serving_findShortest.2.1 94 = .ok (.return_, 1) := by decide +kernel
theorem d_Serving_findWidest_0 : decode M_Serving_findWidest.2.1 0 = .ok (.bipush (-2), 2) := by decide +kernel
theorem d_Serving_findWidest_2 : decode M_Serving_findWidest.2.1 2 = .ok (.istore_n 2, 1) := by decide +kernel
theorem d_Serving_findWidest_3 : decode M_Serving_findWidest.2.1 3 = .ok (.iconst 0, 1) := by decide +kernel
theorem d_Serving_findWidest_4 : decode M_Serving_findWidest.2.1 4 = .ok (.istore_n 3, 1) := by decide +kernel
theorem d_Serving_findWidest_5 : decode M_Serving_findWidest.2.1 5 = .ok (.iconst 0, 1) := by decide +kernel
theorem d_Serving_findWidest_6 : decode M_Serving_findWidest.2.1 6 = .ok (.istore 4, 2) := by decide +kernel
theorem d_Serving_findWidest_8 : decode M_Serving_findWidest.2.1 8 = .ok (.iload 4, 2) := by decide +kernel
theorem d_Serving_findWidest_10 : decode M_Serving_findWidest.2.1 10 = .ok (.iconst 2, 1) := by decide +kernel
theorem d_Serving_findWidest_11 : decode M_Serving_findWidest.2.1 11 = .ok (.aload_n 1, 1) := by decide +kernel
theorem d_Serving_findWidest_12 : decode M_Serving_findWidest.2.1 12 = .ok (.getfield 29, 3) := by decide +kernel
theorem d_Serving_findWidest_15 : decode M_Serving_findWidest.2.1 15 = .ok (.imul, 1) := by decide +kernel
theorem d_Serving_findWidest_16 : decode M_Serving_findWidest.2.1 16 = .ok (.if_icmp .ge 33, 3) := by decide +kernel
theorem d_Serving_findWidest_19 : decode M_Serving_findWidest.2.1 19 = .ok (.aload_n 0, 1) := by decide +kernel
theorem d_Serving_findWidest_20 : decode M_Serving_findWidest.2.1 20 = .ok (.aload_n 1, 1) := by decide +kernel
theorem d_Serving_findWidest_21 : decode M_Serving_findWidest.2.1 21 = .ok (.iload 4, 2) := by decide +kernel
theorem d_Serving_findWidest_23 : decode M_Serving_findWidest.2.1 23 = .ok (.invokevirtual 33, 3) := by decide +kernel
theorem d_Serving_findWidest_26 : decode M_Serving_findWidest.2.1 26 = .ok (.invokestatic 41, 3) := by decide +kernel
theorem d_Serving_findWidest_29 : decode M_Serving_findWidest.2.1 29 = .ok (.istore 5, 2) := by decide +kernel
theorem d_Serving_findWidest_31 : decode M_Serving_findWidest.2.1 31 = .ok (.iload 5, 2) := by decide +kernel
theorem d_Serving_findWidest_33 : decode M_Serving_findWidest.2.1 33 = .ok (.iload_n 3, 1) := by decide +kernel
theorem d_Serving_findWidest_34 : decode M_Serving_findWidest.2.1 34 = .ok (.if_icmp .le 9, 3) := by decide +kernel
theorem d_Serving_findWidest_37 : decode M_Serving_findWidest.2.1 37 = .ok (.iload 5, 2) := by decide +kernel
theorem d_Serving_findWidest_39 : decode M_Serving_findWidest.2.1 39 = .ok (.istore_n 3, 1) := by decide +kernel
theorem d_Serving_findWidest_40 : decode M_Serving_findWidest.2.1 40 = .ok (.iload 4, 2) := by decide +kernel
theorem d_Serving_findWidest_42 : decode M_Serving_findWidest.2.1 42 = .ok (.istore_n 2, 1) := by decide +kernel
theorem d_Serving_findWidest_43 : decode M_Serving_findWidest.2.1 43 = .ok (.iinc 4 1, 3) := by decide +kernel
theorem d_Serving_findWidest_46 : decode M_Serving_findWidest.2.1 46 = .ok (.goto (-38), 3) := by decide +kernel
theorem d_Serving_findWidest_49 : decode M_Serving_findWidest.2.1 49 = .ok (.iload_n 2, 1) := by decide +kernel
theorem d_Serving_findWidest_50 : decode M_Serving_findWidest.2.1 50 = .ok (.ireturn, 1) := by decide +kernel
theorem d_Serving_findChange_0 : decode M_Serving_findChange.2.1 0 = .ok (.aload_n 0, 1) := by decide +kernel
theorem d_Serving_findChange_1 : decode M_Serving_findChange.2.1 1 = .ok (.bipush (-2), 2) := by decide +kernel
theorem d_Serving_findChange_3 : decode M_Serving_findChange.2.1 3 = .ok (.putfield 63, 3) := by decide +kernel
theorem d_Serving_findChange_6 : decode M_Serving_findChange.2.1 6 = .ok (.aload_n 0, 1) := by decide +kernel
theorem d_Serving_findChange_7 : decode M_Serving_findChange.2.1 7 = .ok (.bipush (-2), 2) := by decide +kernel
theorem d_Serving_findChange_9 : decode M_Serving_findChange.2.1 9 = .ok (.putfield 66, 3) := by decide +kernel
theorem d_Serving_findChange_12 : decode M_Serving_findChange.2.1 12 = .ok (.aload_n 0, 1) := by decide +kernel
theorem d_Serving_findChange_13 : decode M_Serving_findChange.2.1 13 = .ok (.aload_n 1, 1) := by decide +kernel
theorem d_Serving_findChange_14 : decode M_Serving_findChange.2.1 14 = .ok (.invokevirtual 69, 3) := by decide +kernel
theorem d_Serving_findChange_17 : decode M_Serving_findChange.2.1 17 = .ok (.istore_n 2, 1) := by decide +kernel
theorem d_Serving_findChange_18 : decode M_Serving_findChange.2.1 18 = .ok (.aload_n 0, 1) := by decide +kernel
theorem d_Serving_findChange_19 : decode M_Serving_findChange.2.1 19 = .ok (.getfield 21, 3) := by decide +kernel
theorem d_Serving_findChange_22 : decode M_Serving_findChange.2.1 22 = .ok (.aload_n 1, 1) := by decide +kernel
theorem d_Serving_findChange_23 : decode M_Serving_findChange.2.1 23 = .ok (.invokevirtual 72, 3) := by decide +kernel
theorem d_Serving_findChange_26 : decode M_Serving_findChange.2.1 26 = .ok (.iconst 0, 1) := by decide +kernel
theorem d_Serving_findChange_27 : decode M_Serving_findChange.2.1 27 = .ok (.istore_n 3, 1) := by decide +kernel
theorem d_Serving_findChange_28 : decode M_Serving_findChange.2.1 28 = .ok (.iload_n 3, 1) := by decide +kernel
theorem d_Serving_findChange_29 : decode M_Serving_findChange.2.1 29 = .ok (.aload_n 1, 1) := by decide +kernel
theorem d_Serving_findChange_30 : decode M_Serving_findChange.2.1 30 = .ok (.getfield 29, 3) := by decide +kernel
theorem d_Serving_findChange_33 : decode M_Serving_findChange.2.1 33 = .ok (.if_icmp .ge 106, 3) := by decide +kernel
theorem d_Serving_findChange_36 : decode M_Serving_findChange.2.1 36 = .ok (.iconst (-1), 1) := by decide +kernel
theorem d_Serving_findChange_37 : decode M_Serving_findChange.2.1 37 = .ok (.istore 4, 2) := by decide +kernel
theorem d_Serving_findChange_39 : decode M_Serving_findChange.2.1 39 = .ok (.iload 4, 2) := by decide +kernel
theorem d_Serving_findChange_41 : decode M_Serving_findChange.2.1 41 = .ok (.aload_n 1, 1) := by decide +kernel
theorem d_Serving_findChange_42 : decode M_Serving_findChange.2.1 42 = .ok (.getfield 29, 3) := by decide +kernel
theorem d_Serving_findChange_45 : decode M_Serving_findChange.2.1 45 = .ok (.if_icmp .ge 73, 3) := by decide +kernel
theorem d_Serving_findChange_48 : decode M_Serving_findChange.2.1 48 = .ok (.aload_n 0, 1) := by decide +kernel
theorem d_Serving_findChange_49 : decode M_Serving_findChange.2.1 49 = .ok (.getfield 21, 3) := by decide +kernel
theorem d_Serving_findChange_52 : decode M_Serving_findChange.2.1 52 = .ok (.iload_n 3, 1) := by decide +kernel
theorem d_Serving_findChange_53 : decode M_Serving_findChange.2.1 53 = .ok (.iload 4, 2) := by decide +kernel
theorem d_Serving_findChange_55 : decode M_Serving_findChange.2.1 55 = .ok (.ifCond .ge 7, 3) := by decide +kernel
theorem d_Serving_findChange_58 : decode M_Serving_findChange.2.1 58 = .ok (.iload_n 3, 1) := by decide +kernel
theorem d_Serving_findChange_59 : decode M_Serving_findChange.2.1 59 = .ok (.goto 5, 3) := by decide +kernel
theorem d_Serving_findChange_62 : decode M_Serving_findChange.2.1 62 = .ok (.iload 4, 2) := by decide +kernel
theorem d_Serving_findChange_64 : decode M_Serving_findChange.2.1 64 = .ok (.invokevirtual 76, 3) := by decide +kernel
theorem d_Serving_findChange_67 : decode M_Serving_findChange.2.1 67 = .ok (.aload_n 0, 1) := by decide +kernel
theorem d_Serving_findChange_68 : decode M_Serving_findChange.2.1 68 = .ok (.aload_n 0, 1) := by decide +kernel
theorem d_Serving_findChange_69 : decode M_Serving_findChange.2.1 69 = .ok (.getfield 21, 3) := by decide +kernel
theorem d_Serving_findChange_72 : decode M_Serving_findChange.2.1 72 = .ok (.invokevirtual 69, 3) := by decide +kernel
theorem d_Serving_findChange_75 : decode M_Serving_findChange.2.1 75 = .ok (.istore 5, 2) := by decide +kernel
theorem d_Serving_findChange_77 : decode M_Serving_findChange.2.1 77 = .ok (.iload 5, 2) := by decide +kernel
theorem d_Serving_findChange_79 : decode M_Serving_findChange.2.1 79 = .ok (.iload_n 2, 1) := by decide +kernel
theorem d_Serving_findChange_80 : decode M_Serving_findChange.2.1 80 = .ok (.if_icmp .le 32, 3) := by decide +kernel
theorem d_Serving_findChange_83 : decode M_Serving_findChange.2.1 83 = .ok (.iload 5, 2) := by decide +kernel
theorem d_Serving_findChange_85 : decode M_Serving_findChange.2.1 85 = .ok (.istore_n 2, 1) := by decide +kernel
theorem d_Serving_findChange_86 : decode M_Serving_findChange.2.1 86 = .ok (.aload_n 0, 1) := by decide +kernel
theorem d_Serving_findChange_87 : decode M_Serving_findChange.2.1 87 = .ok (.bipush 10, 2) := by decide +kernel
theorem d_Serving_findChange_89 : decode M_Serving_findChange.2.1 89 = .ok (.iload_n 3, 1) := by decide +kernel
theorem d_Serving_findChange_90 : decode M_Serving_findChange.2.1 90 = .ok (.imul, 1) := by decide +kernel
theorem d_Serving_findChange_91 : decode M_Serving_findChange.2.1 91 = .ok (.iload 4, 2) := by decide +kernel
theorem d_Serving_findChange_93 : decode M_Serving_findChange.2.1 93 = .ok (.ifCond .ge 7, 3) := by decide +kernel
theorem d_Serving_findChange_96 : decode M_Serving_findChange.2.1 96 = .ok (.iload_n 3, 1) := by decide +kernel
theorem d_Serving_findChange_97 : decode M_Serving_findChange.2.1 97 = .ok (.goto 5, 3) := by decide +kernel
theorem d_Serving_findChange_100 : decode M_Serving_findChange.2.1 100 = .ok (.iload 4, 2) := by decide +kernel
theorem d_Serving_findChange_102 : decode M_Serving_findChange.2.1 102 = .ok (.iadd, 1) := by decide +kernel
theorem d_Serving_findChange_103 : decode M_Serving_findChange.2.1 103 = .ok (.putfield 63, 3) := by decide +kernel
theorem d_Serving_findChange_106 : decode M_Serving_findChange.2.1 106 = .ok (.aload_n 0, 1) := by decide +kernel
theorem d_Serving_findChange_107 : decode M_Serving_findChange.2.1 107 = .ok (.iload 5, 2) := by decide +kernel
theorem d_Serving_findChange_109 : decode M_Serving_findChange.2.1 109 = .ok (.putfield 66, 3) := by decide +kernel
theorem d_Serving_findChange_112 : decode M_Serving_findChange.2.1 112 = .ok (.iinc 4 1, 3) := by decide +kernel
theorem d_Serving_findChange_115 : decode M_Serving_findChange.2.1 115 = .ok (.goto (-76), 3) := by decide +kernel
theorem d_Serving_findChange_118 : decode M_Serving_findChange.2.1 118 = .ok (.aload_n 0, 1) := by decide +kernel
theorem d_Serving_findChange_119 : decode M_Serving_findChange.2.1 119 = .ok (.getfield 21, 3) := by decide +kernel
theorem d_Serving_findChange_122 : decode M_Serving_findChange.2.1 122 = .ok (.getfield 80, 3) := by decide +kernel
theorem d_Serving_findChange_125 : decode M_Serving_findChange.2.1 125 = .ok (.iload_n 3, 1) := by decide +kernel
theorem d_Serving_findChange_126 : decode M_Serving_findChange.2.1 126 = .ok (.aload_n 1, 1) := by decide +kernel
theorem d_Serving_findChange_127 : decode M_Serving_findChange.2.1 127 = .ok (.getfield 80, 3) := by decide +kernel
theorem d_Serving_findChange_130 : decode M_Serving_findChange.2.1 130 = .ok (.iload_n 3, 1) := by decide +kernel
theorem d_Serving_findChange_131 : decode M_Serving_findChange.2.1 131 = .ok (.iaload, 1) := by decide +kernel
theorem d_Serving_findChange_132 : decode M_Serving_findChange.2.1 132 = .ok (.iastore, 1) := by decide +kernel
theorem d_Serving_findChange_133 : decode M_Serving_findChange.2.1 133 = .ok (.iinc 3 1, 3) := by decide +kernel
theorem d_Serving_findChange_136 : decode M_Serving_findChange.2.1 136 = .ok (.goto (-108), 3) := by decide +kernel
theorem d_Serving_findChange_139 : decode M_Serving_findChange.2.1 139 = .ok (.return_, 1) := by decide +kernel
theorem d_Serving_fewestKept_0 : decode M_Serving_fewestKept.2.1 0 = .ok (.aload_n 0, 1) := by decide +kernel
theorem d_Serving_fewestKept_1 : decode M_Serving_fewestKept.2.1 1 = .ok (.aload_n 1, 1) := by decide +kernel
theorem d_Serving_fewestKept_2 : decode M_Serving_fewestKept.2.1 2 = .ok (.invokevirtual 37, 3) := by decide +kernel
theorem d_Serving_fewestKept_5 : decode M_Serving_fewestKept.2.1 5 = .ok (.istore_n 2, 1) := by decide +kernel
theorem d_Serving_fewestKept_6 : decode M_Serving_fewestKept.2.1 6 = .ok (.aload_n 1, 1) := by decide +kernel
theorem d_Serving_fewestKept_7 : decode M_Serving_fewestKept.2.1 7 = .ok (.invokevirtual 84, 3) := by decide +kernel
theorem d_Serving_fewestKept_10 : decode M_Serving_fewestKept.2.1 10 = .ok (.istore_n 3, 1) := by decide +kernel
theorem d_Serving_fewestKept_11 : decode M_Serving_fewestKept.2.1 11 = .ok (.iload_n 3, 1) := by decide +kernel
theorem d_Serving_fewestKept_12 : decode M_Serving_fewestKept.2.1 12 = .ok (.istore 4, 2) := by decide +kernel
theorem d_Serving_fewestKept_14 : decode M_Serving_fewestKept.2.1 14 = .ok (.aload_n 0, 1) := by decide +kernel
theorem d_Serving_fewestKept_15 : decode M_Serving_fewestKept.2.1 15 = .ok (.getfield 21, 3) := by decide +kernel
theorem d_Serving_fewestKept_18 : decode M_Serving_fewestKept.2.1 18 = .ok (.aload_n 1, 1) := by decide +kernel
theorem d_Serving_fewestKept_19 : decode M_Serving_fewestKept.2.1 19 = .ok (.invokevirtual 72, 3) := by decide +kernel
theorem d_Serving_fewestKept_22 : decode M_Serving_fewestKept.2.1 22 = .ok (.iconst 0, 1) := by decide +kernel
theorem d_Serving_fewestKept_23 : decode M_Serving_fewestKept.2.1 23 = .ok (.istore 5, 2) := by decide +kernel
theorem d_Serving_fewestKept_25 : decode M_Serving_fewestKept.2.1 25 = .ok (.iload 5, 2) := by decide +kernel
theorem d_Serving_fewestKept_27 : decode M_Serving_fewestKept.2.1 27 = .ok (.bipush 64, 2) := by decide +kernel
theorem d_Serving_fewestKept_29 : decode M_Serving_fewestKept.2.1 29 = .ok (.if_icmp .ge 94, 3) := by decide +kernel
theorem d_Serving_fewestKept_32 : decode M_Serving_fewestKept.2.1 32 = .ok (.iload 5, 2) := by decide +kernel
theorem d_Serving_fewestKept_34 : decode M_Serving_fewestKept.2.1 34 = .ok (.invokestatic 41, 3) := by decide +kernel
theorem d_Serving_fewestKept_37 : decode M_Serving_fewestKept.2.1 37 = .ok (.iload 4, 2) := by decide +kernel
theorem d_Serving_fewestKept_39 : decode M_Serving_fewestKept.2.1 39 = .ok (.invokestatic 41, 3) := by decide +kernel
theorem d_Serving_fewestKept_42 : decode M_Serving_fewestKept.2.1 42 = .ok (.if_icmp .lt 23, 3) := by decide +kernel
theorem d_Serving_fewestKept_45 : decode M_Serving_fewestKept.2.1 45 = .ok (.iload 5, 2) := by decide +kernel
theorem d_Serving_fewestKept_47 : decode M_Serving_fewestKept.2.1 47 = .ok (.invokestatic 41, 3) := by decide +kernel
theorem d_Serving_fewestKept_50 : decode M_Serving_fewestKept.2.1 50 = .ok (.iload 4, 2) := by decide +kernel
theorem d_Serving_fewestKept_52 : decode M_Serving_fewestKept.2.1 52 = .ok (.invokestatic 41, 3) := by decide +kernel
theorem d_Serving_fewestKept_55 : decode M_Serving_fewestKept.2.1 55 = .ok (.if_icmp .ne 14, 3) := by decide +kernel
theorem d_Serving_fewestKept_58 : decode M_Serving_fewestKept.2.1 58 = .ok (.iload 5, 2) := by decide +kernel
theorem d_Serving_fewestKept_60 : decode M_Serving_fewestKept.2.1 60 = .ok (.iload 4, 2) := by decide +kernel
theorem d_Serving_fewestKept_62 : decode M_Serving_fewestKept.2.1 62 = .ok (.if_icmp .ge 7, 3) := by decide +kernel
theorem d_Serving_fewestKept_65 : decode M_Serving_fewestKept.2.1 65 = .ok (.iconst 1, 1) := by decide +kernel
theorem d_Serving_fewestKept_66 : decode M_Serving_fewestKept.2.1 66 = .ok (.goto 4, 3) := by decide +kernel
theorem d_Serving_fewestKept_69 : decode M_Serving_fewestKept.2.1 69 = .ok (.iconst 0, 1) := by decide +kernel
theorem d_Serving_fewestKept_70 : decode M_Serving_fewestKept.2.1 70 = .ok (.istore 6, 2) := by decide +kernel
theorem d_Serving_fewestKept_72 : decode M_Serving_fewestKept.2.1 72 = .ok (.iload 5, 2) := by decide +kernel
theorem d_Serving_fewestKept_74 : decode M_Serving_fewestKept.2.1 74 = .ok (.iload_n 3, 1) := by decide +kernel
theorem d_Serving_fewestKept_75 : decode M_Serving_fewestKept.2.1 75 = .ok (.iconst (-1), 1) := by decide +kernel
theorem d_Serving_fewestKept_76 : decode M_Serving_fewestKept.2.1 76 = .ok (.ixor, 1) := by decide +kernel
theorem d_Serving_fewestKept_77 : decode M_Serving_fewestKept.2.1 77 = .ok (.iand, 1) := by decide +kernel
theorem d_Serving_fewestKept_78 : decode M_Serving_fewestKept.2.1 78 = .ok (.ifCond .ne 39, 3) := by decide +kernel
theorem d_Serving_fewestKept_81 : decode M_Serving_fewestKept.2.1 81 = .ok (.iload 6, 2) := by decide +kernel
theorem d_Serving_fewestKept_83 : decode M_Serving_fewestKept.2.1 83 = .ok (.ifCond .ne 6, 3) := by decide +kernel
theorem d_Serving_fewestKept_86 : decode M_Serving_fewestKept.2.1 86 = .ok (.goto 31, 3) := by decide +kernel
theorem d_Serving_fewestKept_89 : decode M_Serving_fewestKept.2.1 89 = .ok (.aload_n 0, 1) := by decide +kernel
theorem d_Serving_fewestKept_90 : decode M_Serving_fewestKept.2.1 90 = .ok (.getfield 21, 3) := by decide +kernel
theorem d_Serving_fewestKept_93 : decode M_Serving_fewestKept.2.1 93 = .ok (.iload 5, 2) := by decide +kernel
theorem d_Serving_fewestKept_95 : decode M_Serving_fewestKept.2.1 95 = .ok (.invokevirtual 88, 3) := by decide +kernel
theorem d_Serving_fewestKept_98 : decode M_Serving_fewestKept.2.1 98 = .ok (.iload_n 2, 1) := by decide +kernel
theorem d_Serving_fewestKept_99 : decode M_Serving_fewestKept.2.1 99 = .ok (.aload_n 0, 1) := by decide +kernel
theorem d_Serving_fewestKept_100 : decode M_Serving_fewestKept.2.1 100 = .ok (.aload_n 0, 1) := by decide +kernel
theorem d_Serving_fewestKept_101 : decode M_Serving_fewestKept.2.1 101 = .ok (.getfield 21, 3) := by decide +kernel
theorem d_Serving_fewestKept_104 : decode M_Serving_fewestKept.2.1 104 = .ok (.invokevirtual 37, 3) := by decide +kernel
theorem d_Serving_fewestKept_107 : decode M_Serving_fewestKept.2.1 107 = .ok (.iconst (-1), 1) := by decide +kernel
theorem d_Serving_fewestKept_108 : decode M_Serving_fewestKept.2.1 108 = .ok (.ixor, 1) := by decide +kernel
theorem d_Serving_fewestKept_109 : decode M_Serving_fewestKept.2.1 109 = .ok (.iand, 1) := by decide +kernel
theorem d_Serving_fewestKept_110 : decode M_Serving_fewestKept.2.1 110 = .ok (.ifCond .ne 7, 3) := by decide +kernel
theorem d_Serving_fewestKept_113 : decode M_Serving_fewestKept.2.1 113 = .ok (.iload 5, 2) := by decide +kernel
theorem d_Serving_fewestKept_115 : decode M_Serving_fewestKept.2.1 115 = .ok (.istore 4, 2) := by decide +kernel
theorem d_Serving_fewestKept_117 : decode M_Serving_fewestKept.2.1 117 = .ok (.iinc 5 1, 3) := by decide +kernel
theorem d_Serving_fewestKept_120 : decode M_Serving_fewestKept.2.1 120 = .ok (.goto (-95), 3) := by decide +kernel
theorem d_Serving_fewestKept_123 : decode M_Serving_fewestKept.2.1 123 = .ok (.iload 4, 2) := by decide +kernel
theorem d_Serving_fewestKept_125 : decode M_Serving_fewestKept.2.1 125 = .ok (.ireturn, 1) := by decide +kernel
theorem d_Serving_mostNeeded_0 : decode M_Serving_mostNeeded.2.1 0 = .ok (.iconst 0, 1) := by decide +kernel
theorem d_Serving_mostNeeded_1 : decode M_Serving_mostNeeded.2.1 1 = .ok (.istore_n 2, 1) := by decide +kernel
theorem d_Serving_mostNeeded_2 : decode M_Serving_mostNeeded.2.1 2 = .ok (.bipush 6, 2) := by decide +kernel
theorem d_Serving_mostNeeded_4 : decode M_Serving_mostNeeded.2.1 4 = .ok (.istore_n 3, 1) := by decide +kernel
theorem d_Serving_mostNeeded_5 : decode M_Serving_mostNeeded.2.1 5 = .ok (.aload_n 0, 1) := by decide +kernel
theorem d_Serving_mostNeeded_6 : decode M_Serving_mostNeeded.2.1 6 = .ok (.getfield 21, 3) := by decide +kernel
theorem d_Serving_mostNeeded_9 : decode M_Serving_mostNeeded.2.1 9 = .ok (.aload_n 1, 1) := by decide +kernel
theorem d_Serving_mostNeeded_10 : decode M_Serving_mostNeeded.2.1 10 = .ok (.invokevirtual 72, 3) := by decide +kernel
theorem d_Serving_mostNeeded_13 : decode M_Serving_mostNeeded.2.1 13 = .ok (.iconst 0, 1) := by decide +kernel
theorem d_Serving_mostNeeded_14 : decode M_Serving_mostNeeded.2.1 14 = .ok (.istore 4, 2) := by decide +kernel
theorem d_Serving_mostNeeded_16 : decode M_Serving_mostNeeded.2.1 16 = .ok (.iload 4, 2) := by decide +kernel
theorem d_Serving_mostNeeded_18 : decode M_Serving_mostNeeded.2.1 18 = .ok (.aload_n 1, 1) := by decide +kernel
theorem d_Serving_mostNeeded_19 : decode M_Serving_mostNeeded.2.1 19 = .ok (.getfield 29, 3) := by decide +kernel
theorem d_Serving_mostNeeded_22 : decode M_Serving_mostNeeded.2.1 22 = .ok (.if_icmp .ge 59, 3) := by decide +kernel
theorem d_Serving_mostNeeded_25 : decode M_Serving_mostNeeded.2.1 25 = .ok (.aload_n 0, 1) := by decide +kernel
theorem d_Serving_mostNeeded_26 : decode M_Serving_mostNeeded.2.1 26 = .ok (.getfield 21, 3) := by decide +kernel
theorem d_Serving_mostNeeded_29 : decode M_Serving_mostNeeded.2.1 29 = .ok (.getfield 92, 3) := by decide +kernel
theorem d_Serving_mostNeeded_32 : decode M_Serving_mostNeeded.2.1 32 = .ok (.iload 4, 2) := by decide +kernel
theorem d_Serving_mostNeeded_34 : decode M_Serving_mostNeeded.2.1 34 = .ok (.iconst 0, 1) := by decide +kernel
theorem d_Serving_mostNeeded_35 : decode M_Serving_mostNeeded.2.1 35 = .ok (.iastore, 1) := by decide +kernel
theorem d_Serving_mostNeeded_36 : decode M_Serving_mostNeeded.2.1 36 = .ok (.aload_n 0, 1) := by decide +kernel
theorem d_Serving_mostNeeded_37 : decode M_Serving_mostNeeded.2.1 37 = .ok (.aload_n 0, 1) := by decide +kernel
theorem d_Serving_mostNeeded_38 : decode M_Serving_mostNeeded.2.1 38 = .ok (.getfield 21, 3) := by decide +kernel
theorem d_Serving_mostNeeded_41 : decode M_Serving_mostNeeded.2.1 41 = .ok (.invokevirtual 69, 3) := by decide +kernel
theorem d_Serving_mostNeeded_44 : decode M_Serving_mostNeeded.2.1 44 = .ok (.istore 5, 2) := by decide +kernel
theorem d_Serving_mostNeeded_46 : decode M_Serving_mostNeeded.2.1 46 = .ok (.iload 5, 2) := by decide +kernel
theorem d_Serving_mostNeeded_48 : decode M_Serving_mostNeeded.2.1 48 = .ok (.iload_n 3, 1) := by decide +kernel
theorem d_Serving_mostNeeded_49 : decode M_Serving_mostNeeded.2.1 49 = .ok (.if_icmp .ge 9, 3) := by decide +kernel
theorem d_Serving_mostNeeded_52 : decode M_Serving_mostNeeded.2.1 52 = .ok (.iload 5, 2) := by decide +kernel
theorem d_Serving_mostNeeded_54 : decode M_Serving_mostNeeded.2.1 54 = .ok (.istore_n 3, 1) := by decide +kernel
theorem d_Serving_mostNeeded_55 : decode M_Serving_mostNeeded.2.1 55 = .ok (.iload 4, 2) := by decide +kernel
theorem d_Serving_mostNeeded_57 : decode M_Serving_mostNeeded.2.1 57 = .ok (.istore_n 2, 1) := by decide +kernel
theorem d_Serving_mostNeeded_58 : decode M_Serving_mostNeeded.2.1 58 = .ok (.aload_n 0, 1) := by decide +kernel
theorem d_Serving_mostNeeded_59 : decode M_Serving_mostNeeded.2.1 59 = .ok (.getfield 21, 3) := by decide +kernel
theorem d_Serving_mostNeeded_62 : decode M_Serving_mostNeeded.2.1 62 = .ok (.getfield 92, 3) := by decide +kernel
theorem d_Serving_mostNeeded_65 : decode M_Serving_mostNeeded.2.1 65 = .ok (.iload 4, 2) := by decide +kernel
theorem d_Serving_mostNeeded_67 : decode M_Serving_mostNeeded.2.1 67 = .ok (.aload_n 1, 1) := by decide +kernel
theorem d_Serving_mostNeeded_68 : decode M_Serving_mostNeeded.2.1 68 = .ok (.getfield 92, 3) := by decide +kernel
theorem d_Serving_mostNeeded_71 : decode M_Serving_mostNeeded.2.1 71 = .ok (.iload 4, 2) := by decide +kernel
theorem d_Serving_mostNeeded_73 : decode M_Serving_mostNeeded.2.1 73 = .ok (.iaload, 1) := by decide +kernel
theorem d_Serving_mostNeeded_74 : decode M_Serving_mostNeeded.2.1 74 = .ok (.iastore, 1) := by decide +kernel
theorem d_Serving_mostNeeded_75 : decode M_Serving_mostNeeded.2.1 75 = .ok (.iinc 4 1, 3) := by decide +kernel
theorem d_Serving_mostNeeded_78 : decode M_Serving_mostNeeded.2.1 78 = .ok (.goto (-62), 3) := by decide +kernel
theorem d_Serving_mostNeeded_81 : decode M_Serving_mostNeeded.2.1 81 = .ok (.iload_n 2, 1) := by decide +kernel
theorem d_Serving_mostNeeded_82 : decode M_Serving_mostNeeded.2.1 82 = .ok (.ireturn, 1) := by decide +kernel
theorem d_Serving_bitsServedBy_0 : decode M_Serving_bitsServedBy.2.1 0 = .ok (.aload_n 0, 1) := by decide +kernel
theorem d_Serving_bitsServedBy_1 : decode M_Serving_bitsServedBy.2.1 1 = .ok (.getfield 12, 3) := by decide +kernel
theorem d_Serving_bitsServedBy_4 : decode M_Serving_bitsServedBy.2.1 4 = .ok (.aload_n 1, 1) := by decide +kernel
theorem d_Serving_bitsServedBy_5 : decode M_Serving_bitsServedBy.2.1 5 = .ok (.iload_n 2, 1) := by decide +kernel
theorem d_Serving_bitsServedBy_6 : decode M_Serving_bitsServedBy.2.1 6 = .ok (.iconst 1, 1) := by decide +kernel
theorem d_Serving_bitsServedBy_7 : decode M_Serving_bitsServedBy.2.1 7 = .ok (.ishr, 1) := by decide +kernel
theorem d_Serving_bitsServedBy_8 : decode M_Serving_bitsServedBy.2.1 8 = .ok (.iload_n 2, 1) := by decide +kernel
theorem d_Serving_bitsServedBy_9 : decode M_Serving_bitsServedBy.2.1 9 = .ok (.iconst 1, 1) := by decide +kernel
theorem d_Serving_bitsServedBy_10 : decode M_Serving_bitsServedBy.2.1 10 = .ok (.iand, 1) := by decide +kernel
theorem d_Serving_bitsServedBy_11 : decode M_Serving_bitsServedBy.2.1 11 = .ok (.ifCond .eq 7, 3) := by decide +kernel
theorem d_Serving_bitsServedBy_14 : decode M_Serving_bitsServedBy.2.1 14 = .ok (.iconst 1, 1) := by decide +kernel
theorem d_Serving_bitsServedBy_15 : decode M_Serving_bitsServedBy.2.1 15 = .ok (.goto 4, 3) := by decide +kernel
theorem d_Serving_bitsServedBy_18 : decode M_Serving_bitsServedBy.2.1 18 = .ok (.iconst 0, 1) := by decide +kernel
theorem d_Serving_bitsServedBy_19 : decode M_Serving_bitsServedBy.2.1 19 = .ok (.invokevirtual 47, 3) := by decide +kernel
theorem d_Serving_bitsServedBy_22 : decode M_Serving_bitsServedBy.2.1 22 = .ok (.aload_n 0, 1) := by decide +kernel
theorem d_Serving_bitsServedBy_23 : decode M_Serving_bitsServedBy.2.1 23 = .ok (.getfield 12, 3) := by decide +kernel
theorem d_Serving_bitsServedBy_26 : decode M_Serving_bitsServedBy.2.1 26 = .ok (.getfield 95, 3) := by decide +kernel
theorem d_Serving_bitsServedBy_29 : decode M_Serving_bitsServedBy.2.1 29 = .ok (.iconst 1, 1) := by decide +kernel
theorem d_Serving_bitsServedBy_30 : decode M_Serving_bitsServedBy.2.1 30 = .ok (.if_icmp .ne 35, 3) := by decide +kernel
theorem d_Serving_bitsServedBy_33 : decode M_Serving_bitsServedBy.2.1 33 = .ok (.aload_n 1, 1) := by decide +kernel
theorem d_Serving_bitsServedBy_34 : decode M_Serving_bitsServedBy.2.1 34 = .ok (.aload_n 0, 1) := by decide +kernel
theorem d_Serving_bitsServedBy_35 : decode M_Serving_bitsServedBy.2.1 35 = .ok (.getfield 12, 3) := by decide +kernel
theorem d_Serving_bitsServedBy_38 : decode M_Serving_bitsServedBy.2.1 38 = .ok (.getfield 51, 3) := by decide +kernel
theorem d_Serving_bitsServedBy_41 : decode M_Serving_bitsServedBy.2.1 41 = .ok (.invokevirtual 98, 3) := by decide +kernel
theorem d_Serving_bitsServedBy_44 : decode M_Serving_bitsServedBy.2.1 44 = .ok (.ifCond .eq 21, 3) := by decide +kernel
theorem d_Serving_bitsServedBy_47 : decode M_Serving_bitsServedBy.2.1 47 = .ok (.aload_n 0, 1) := by decide +kernel
theorem d_Serving_bitsServedBy_48 : decode M_Serving_bitsServedBy.2.1 48 = .ok (.getfield 25, 3) := by decide +kernel
theorem d_Serving_bitsServedBy_51 : decode M_Serving_bitsServedBy.2.1 51 = .ok (.getfield 102, 3) := by decide +kernel
theorem d_Serving_bitsServedBy_54 : decode M_Serving_bitsServedBy.2.1 54 = .ok (.aload_n 0, 1) := by decide +kernel
theorem d_Serving_bitsServedBy_55 : decode M_Serving_bitsServedBy.2.1 55 = .ok (.getfield 12, 3) := by decide +kernel
theorem d_Serving_bitsServedBy_58 : decode M_Serving_bitsServedBy.2.1 58 = .ok (.getfield 51, 3) := by decide +kernel
theorem d_Serving_bitsServedBy_61 : decode M_Serving_bitsServedBy.2.1 61 = .ok (.iaload, 1) := by decide +kernel
theorem d_Serving_bitsServedBy_62 : decode M_Serving_bitsServedBy.2.1 62 = .ok (.goto 4, 3) := by decide +kernel
theorem d_Serving_bitsServedBy_65 : decode M_Serving_bitsServedBy.2.1 65 = .ok (.iconst 0, 1) := by decide +kernel
theorem d_Serving_bitsServedBy_66 : decode M_Serving_bitsServedBy.2.1 66 = .ok (.ireturn, 1) := by decide +kernel
set_option maxRecDepth 4000 in
theorem t_Serving_bitsServed_4 {d : Nat} {I : Nat → Nat → Int32} {J : Nat → Nat → Int64} {R : Nat → Nat → Option Nat} {Q : Option Value → ow_H → Prop} {o : Nat} {v2 : Int32} {v3 : Int32} (ho : o ∈ [3, 15, 29, 33, 42, 47, 57]) (hR : ow_RF R) (T : (((2 * (I o 0)) ≤ v3 → Q (some (.int v2)) (85, I, J, R)) ∧ (¬ (2 * (I o 0)) ≤ v3 → (ow_AM M_Serving_bitsServedBy d [.ref 39, .ref o, .int v3] (85, I, J, R) (fun r h' => ∃ (r1 : Int32) (I1 : Nat → Nat → Int32) (J1 : Nat → Nat → Int64) (R1 : Nat → Nat → Option Nat), r = some (.int r1) ∧ h' = (85, I1, J1, R1) ∧ ow_RF R1 ∧ ow_AW ow_Y0 (ow_Z Q) M_Serving_bitsServed (d + 1) 0 0 4 [(0, .ref 39), (1, .ref o), (2, .int (v2 ||| r1)), (3, .int (v3 + 1))] [] (85, I1, J1, R1) 0 0))))) : ow_AW ow_Y0 (ow_Z Q) M_Serving_bitsServed (d + 1) 0 0 4 [(0, .ref 39), (1, .ref o), (2, .int v2), (3, .int v3)] [] (85, I, J, R) 0 0 := by
  obtain ⟨o_lt, o_kd, o_r3, o_r4, o_r5, o_k1, o_k2, o_k3, o_n1, o_n2, o_n3⟩ := ow_sc_ok o ho
  refine ow_iload_n 3 rfl d_Serving_bitsServed_4 ?_
  refine ow_iconst (v := 2) (by decide) d_Serving_bitsServed_5 ?_
  refine ow_aload_n 1 rfl d_Serving_bitsServed_6 ?_
  refine ow_gI 1 d_Serving_bitsServed_7 rfl rfl (by omega) o_kd (Or.inl rfl) ?_
  refine ow_imul d_Serving_bitsServed_10 ?_
  refine ow_icmp_ge (tgt := 29) d_Serving_bitsServed_11 (by decide) (fun c => ?_) (fun c => ?_)
  · replace T := T.1 c
    refine ow_iload_n 2 rfl d_Serving_bitsServed_29 ?_
    exact ow_iret d_Serving_bitsServed_30 rfl T
  · replace T := T.2 c
    refine ow_iload_n 2 rfl d_Serving_bitsServed_14 ?_
    refine ow_aload_n 0 rfl d_Serving_bitsServed_15 ?_
    refine ow_aload_n 1 rfl d_Serving_bitsServed_16 ?_
    refine ow_iload_n 3 rfl d_Serving_bitsServed_17 ?_
    refine ow_callV (b := 39) (cq := 5) (As := [.ref o, .int v3]) (rest := [.int v2]) (d2 := d) d_Serving_bitsServed_18 l_Serving_33 v_Serving_bitsServedBy (show 39 < 85 by decide) rfl (by decide) rfl (Nat.le_of_ble_eq_true rfl) (Nat.le_refl _) ⟨Nat.le_refl _, Nat.le_refl _⟩ (ow_mono T ?_)
    rintro r h' ⟨r1, I1, J1, R1, rfl, rfl, hR1, T⟩
    show ow_AW ow_Y0 (ow_Z Q) M_Serving_bitsServed (d + 1) 0 0 21 [(0, .ref 39), (1, .ref o), (2, .int v2), (3, .int v3)] [.int r1, .int v2] (85, I1, J1, R1) 0 0
    refine ow_ior d_Serving_bitsServed_21 ?_
    refine ow_istore_n (ls2 := [(2, .int (v2 ||| r1)), (0, .ref 39), (1, .ref o), (3, .int v3)]) d_Serving_bitsServed_22 (by decide) rfl ?_
    refine ow_iinc 3 (v := (v3 + 1)) (ls2 := [(3, .int (v3 + 1)), (2, .int (v2 ||| r1)), (0, .ref 39), (1, .ref o)]) d_Serving_bitsServed_23 rfl rfl (by decide) rfl ?_
    refine ow_goto (tgt := 4) d_Serving_bitsServed_26 (by decide) ?_
    refine ow_sub [2, 3, 1, 0] rfl ?_
    exact T
set_option maxRecDepth 4000 in
theorem t_Serving_bitsServed {d : Nat} {I : Nat → Nat → Int32} {J : Nat → Nat → Int64} {R : Nat → Nat → Option Nat} {Q : Option Value → ow_H → Prop} {o : Nat} (ho : o ∈ [3, 15, 29, 33, 42, 47, 57]) (hR : ow_RF R) (T : ow_AW ow_Y0 (ow_Z Q) M_Serving_bitsServed (d + 1) 0 0 4 [(0, .ref 39), (1, .ref o), (2, .int 0), (3, .int 0)] [] (85, I, J, R) 0 0) : ow_AM M_Serving_bitsServed (d + 1) [.ref 39, .ref o] (85, I, J, R) Q := by
  refine ow_enter (by decide) (Nat.le_of_ble_eq_true rfl) ?_
  show ow_AW ow_Y0 (ow_Z Q) M_Serving_bitsServed (d + 1) 0 0 0 [(0, .ref 39), (1, .ref o)] [] (85, I, J, R) 0 0
  obtain ⟨o_lt, o_kd, o_r3, o_r4, o_r5, o_k1, o_k2, o_k3, o_n1, o_n2, o_n3⟩ := ow_sc_ok o ho
  refine ow_iconst (v := 0) (by decide) d_Serving_bitsServed_0 ?_
  refine ow_istore_n (ls2 := [(2, .int 0), (0, .ref 39), (1, .ref o)]) d_Serving_bitsServed_1 (by decide) rfl ?_
  refine ow_iconst (v := 0) (by decide) d_Serving_bitsServed_2 ?_
  refine ow_istore_n (ls2 := [(3, .int 0), (2, .int 0), (0, .ref 39), (1, .ref o)]) d_Serving_bitsServed_3 (by decide) rfl ?_
  refine ow_sub [2, 3, 1, 0] rfl ?_
  exact T
set_option maxRecDepth 4000 in
theorem t_Serving_countServed {d : Nat} {I : Nat → Nat → Int32} {J : Nat → Nat → Int64} {R : Nat → Nat → Option Nat} {Q : Option Value → ow_H → Prop} {o : Nat} (ho : o ∈ [3, 15, 29, 33, 42, 47, 57]) (hR : ow_RF R) (T : (ow_AM M_Serving_bitsServed d [.ref 39, .ref o] (85, I, J, R) (fun r h' => ∃ (r3 : Int32) (I3 : Nat → Nat → Int32) (J3 : Nat → Nat → Int64) (R3 : Nat → Nat → Option Nat), r = some (.int r3) ∧ h' = (85, I3, J3, R3) ∧ ow_RF R3 ∧ (ow_AM M_Integer_bitCount d [.int r3] (85, I3, J3, R3) (fun r h' => ∃ (r4 : Int32) (I4 : Nat → Nat → Int32) (J4 : Nat → Nat → Int64) (R4 : Nat → Nat → Option Nat), r = some (.int r4) ∧ h' = (85, I4, J4, R4) ∧ ow_RF R4 ∧ Q (some (.int r4)) (85, I4, J4, R4)))))) : ow_AM M_Serving_countServed (d + 1) [.ref 39, .ref o] (85, I, J, R) Q := by
  refine ow_enter (by decide) (Nat.le_of_ble_eq_true rfl) ?_
  show ow_AW ow_Y0 (ow_Z Q) M_Serving_countServed (d + 1) 0 0 0 [(0, .ref 39), (1, .ref o)] [] (85, I, J, R) 0 0
  obtain ⟨o_lt, o_kd, o_r3, o_r4, o_r5, o_k1, o_k2, o_k3, o_n1, o_n2, o_n3⟩ := ow_sc_ok o ho
  refine ow_aload_n 0 rfl d_Serving_countServed_0 ?_
  refine ow_aload_n 1 rfl d_Serving_countServed_1 ?_
  refine ow_callV (b := 39) (cq := 5) (As := [.ref o]) (rest := []) (d2 := d) d_Serving_countServed_2 l_Serving_37 v_Serving_bitsServed (show 39 < 85 by decide) rfl (by decide) rfl (Nat.le_of_ble_eq_true rfl) (Nat.le_refl _) ⟨Nat.le_refl _, Nat.le_refl _⟩ (ow_mono T ?_)
  rintro r h' ⟨r3, I3, J3, R3, rfl, rfl, hR3, T⟩
  show ow_AW ow_Y0 (ow_Z Q) M_Serving_countServed (d + 1) 0 0 5 [(0, .ref 39), (1, .ref o)] [.int r3] (85, I3, J3, R3) 0 0
  refine ow_callS (As := [.int r3]) (rest := []) (d2 := d) d_Serving_countServed_5 l_Serving_41 v_Integer_bitCount (Nat.le_of_ble_eq_true rfl) (Nat.le_refl _) ⟨Nat.le_refl _, Nat.le_refl _⟩ (ow_mono T ?_)
  rintro r h' ⟨r4, I4, J4, R4, rfl, rfl, hR4, T⟩
  show ow_AW ow_Y0 (ow_Z Q) M_Serving_countServed (d + 1) 0 0 8 [(0, .ref 39), (1, .ref o)] [.int r4] (85, I4, J4, R4) 0 0
  exact ow_iret d_Serving_countServed_8 rfl T
set_option maxRecDepth 4000 in
theorem t_Serving_bitsSigning_4 {d : Nat} {I : Nat → Nat → Int32} {J : Nat → Nat → Int64} {R : Nat → Nat → Option Nat} {Q : Option Value → ow_H → Prop} {o : Nat} {v2 : Int32} {v3 : Int32} (ho : o ∈ [3, 15, 29, 33, 42, 47, 57]) (hR : ow_RF R) (T : (((2 * (I o 0)) ≤ v3 → Q (some (.int v2)) (85, I, J, R)) ∧ (¬ (2 * (I o 0)) ≤ v3 → (((v3 &&& 1) = 0 → (ow_AM M_Course_run d [.ref 40, .ref o, .int (v3 >>> (1 &&& 31)), .int 0] (85, I, J, R) (fun r h' => ∃ (I1 : Nat → Nat → Int32) (J1 : Nat → Nat → Int64) (R1 : Nat → Nat → Option Nat), r = none ∧ h' = (85, I1, J1, R1) ∧ ow_RF R1 ∧ (((I1 40 3) = (-2) → ow_AW ow_Y0 (ow_Z Q) M_Serving_bitsSigning (d + 1) 0 0 4 [(0, .ref 39), (1, .ref o), (2, .int v2), (3, .int (v3 + 1))] [] (85, I1, J1, R1) 0 0) ∧ (¬ (I1 40 3) = (-2) → ow_AW ow_Y0 (ow_Z Q) M_Serving_bitsSigning (d + 1) 0 0 4 [(0, .ref 39), (1, .ref o), (2, .int (v2 ||| ((1 : Int32) <<< ((I1 40 3) &&& 31)))), (3, .int (v3 + 1))] [] (85, I1, J1, R1) 0 0))))) ∧ (¬ (v3 &&& 1) = 0 → (ow_AM M_Course_run d [.ref 40, .ref o, .int (v3 >>> (1 &&& 31)), .int 1] (85, I, J, R) (fun r h' => ∃ (I2 : Nat → Nat → Int32) (J2 : Nat → Nat → Int64) (R2 : Nat → Nat → Option Nat), r = none ∧ h' = (85, I2, J2, R2) ∧ ow_RF R2 ∧ (((I2 40 3) = (-2) → ow_AW ow_Y0 (ow_Z Q) M_Serving_bitsSigning (d + 1) 0 0 4 [(0, .ref 39), (1, .ref o), (2, .int v2), (3, .int (v3 + 1))] [] (85, I2, J2, R2) 0 0) ∧ (¬ (I2 40 3) = (-2) → ow_AW ow_Y0 (ow_Z Q) M_Serving_bitsSigning (d + 1) 0 0 4 [(0, .ref 39), (1, .ref o), (2, .int (v2 ||| ((1 : Int32) <<< ((I2 40 3) &&& 31)))), (3, .int (v3 + 1))] [] (85, I2, J2, R2) 0 0))))))))) : ow_AW ow_Y0 (ow_Z Q) M_Serving_bitsSigning (d + 1) 0 0 4 [(0, .ref 39), (1, .ref o), (2, .int v2), (3, .int v3)] [] (85, I, J, R) 0 0 := by
  obtain ⟨o_lt, o_kd, o_r3, o_r4, o_r5, o_k1, o_k2, o_k3, o_n1, o_n2, o_n3⟩ := ow_sc_ok o ho
  refine ow_iload_n 3 rfl d_Serving_bitsSigning_4 ?_
  refine ow_iconst (v := 2) (by decide) d_Serving_bitsSigning_5 ?_
  refine ow_aload_n 1 rfl d_Serving_bitsSigning_6 ?_
  refine ow_gI 1 d_Serving_bitsSigning_7 rfl rfl (by omega) o_kd (Or.inl rfl) ?_
  refine ow_imul d_Serving_bitsSigning_10 ?_
  refine ow_icmp_ge (tgt := 66) d_Serving_bitsSigning_11 (by decide) (fun c => ?_) (fun c => ?_)
  · replace T := T.1 c
    refine ow_iload_n 2 rfl d_Serving_bitsSigning_66 ?_
    exact ow_iret d_Serving_bitsSigning_67 rfl T
  · replace T := T.2 c
    refine ow_aload_n 0 rfl d_Serving_bitsSigning_14 ?_
    refine ow_gR (a := 40) 104 d_Serving_bitsSigning_15 rfl rfl (by decide) rfl ⟨rfl, hR 39 1 (by decide)⟩ ?_
    refine ow_aload_n 1 rfl d_Serving_bitsSigning_18 ?_
    refine ow_iload_n 3 rfl d_Serving_bitsSigning_19 ?_
    refine ow_iconst (v := 1) (by decide) d_Serving_bitsSigning_20 ?_
    refine ow_ishr d_Serving_bitsSigning_21 ?_
    refine ow_iload_n 3 rfl d_Serving_bitsSigning_22 ?_
    refine ow_iconst (v := 1) (by decide) d_Serving_bitsSigning_23 ?_
    refine ow_iand d_Serving_bitsSigning_24 ?_
    refine ow_if_eq (tgt := 32) d_Serving_bitsSigning_25 (by decide) (fun c => ?_) (fun c => ?_)
    · replace T := T.1 c
      refine ow_iconst (v := 0) (by decide) d_Serving_bitsSigning_32 ?_
      refine ow_callV (b := 40) (cq := 0) (As := [.ref o, .int (v3 >>> (1 &&& 31)), .int 0]) (rest := []) (d2 := d) d_Serving_bitsSigning_33 l_Serving_47 v_Course_run (show 40 < 85 by decide) rfl (by decide) rfl (Nat.le_of_ble_eq_true rfl) (Nat.le_refl _) ⟨Nat.le_refl _, Nat.le_refl _⟩ (ow_mono T ?_)
      rintro r h' ⟨I1, J1, R1, rfl, rfl, hR1, T⟩
      show ow_AW ow_Y0 (ow_Z Q) M_Serving_bitsSigning (d + 1) 0 0 36 [(0, .ref 39), (1, .ref o), (2, .int v2), (3, .int v3)] [] (85, I1, J1, R1) 0 0
      refine ow_aload_n 0 rfl d_Serving_bitsSigning_36 ?_
      refine ow_gR (a := 40) 104 d_Serving_bitsSigning_37 rfl rfl (by decide) rfl ⟨rfl, hR1 39 1 (by decide)⟩ ?_
      refine ow_gI 96 d_Serving_bitsSigning_40 rfl rfl (by decide) rfl (Or.inl rfl) ?_
      refine ow_bipush (v := (-2)) (by decide) d_Serving_bitsSigning_43 ?_
      refine ow_icmp_eq (tgt := 60) d_Serving_bitsSigning_45 (by decide) (fun c => ?_) (fun c => ?_)
      · replace T := T.1 c
        refine ow_iinc 3 (v := (v3 + 1)) (ls2 := [(3, .int (v3 + 1)), (0, .ref 39), (1, .ref o), (2, .int v2)]) d_Serving_bitsSigning_60 rfl rfl (by decide) rfl ?_
        refine ow_goto (tgt := 4) d_Serving_bitsSigning_63 (by decide) ?_
        refine ow_sub [1, 2, 3, 0] rfl ?_
        exact T
      · replace T := T.2 c
        refine ow_iload_n 2 rfl d_Serving_bitsSigning_48 ?_
        refine ow_iconst (v := 1) (by decide) d_Serving_bitsSigning_49 ?_
        refine ow_aload_n 0 rfl d_Serving_bitsSigning_50 ?_
        refine ow_gR (a := 40) 104 d_Serving_bitsSigning_51 rfl rfl (by decide) rfl ⟨rfl, hR1 39 1 (by decide)⟩ ?_
        refine ow_gI 96 d_Serving_bitsSigning_54 rfl rfl (by decide) rfl (Or.inl rfl) ?_
        refine ow_ishl d_Serving_bitsSigning_57 ?_
        refine ow_ior d_Serving_bitsSigning_58 ?_
        refine ow_istore_n (ls2 := [(2, .int (v2 ||| ((1 : Int32) <<< ((I1 40 3) &&& 31)))), (0, .ref 39), (1, .ref o), (3, .int v3)]) d_Serving_bitsSigning_59 (by decide) rfl ?_
        refine ow_iinc 3 (v := (v3 + 1)) (ls2 := [(3, .int (v3 + 1)), (2, .int (v2 ||| ((1 : Int32) <<< ((I1 40 3) &&& 31)))), (0, .ref 39), (1, .ref o)]) d_Serving_bitsSigning_60 rfl rfl (by decide) rfl ?_
        refine ow_goto (tgt := 4) d_Serving_bitsSigning_63 (by decide) ?_
        refine ow_sub [2, 3, 1, 0] rfl ?_
        exact T
    · replace T := T.2 c
      refine ow_iconst (v := 1) (by decide) d_Serving_bitsSigning_28 ?_
      refine ow_goto (tgt := 33) d_Serving_bitsSigning_29 (by decide) ?_
      refine ow_callV (b := 40) (cq := 0) (As := [.ref o, .int (v3 >>> (1 &&& 31)), .int 1]) (rest := []) (d2 := d) d_Serving_bitsSigning_33 l_Serving_47 v_Course_run (show 40 < 85 by decide) rfl (by decide) rfl (Nat.le_of_ble_eq_true rfl) (Nat.le_refl _) ⟨Nat.le_refl _, Nat.le_refl _⟩ (ow_mono T ?_)
      rintro r h' ⟨I2, J2, R2, rfl, rfl, hR2, T⟩
      show ow_AW ow_Y0 (ow_Z Q) M_Serving_bitsSigning (d + 1) 0 0 36 [(0, .ref 39), (1, .ref o), (2, .int v2), (3, .int v3)] [] (85, I2, J2, R2) 0 0
      refine ow_aload_n 0 rfl d_Serving_bitsSigning_36 ?_
      refine ow_gR (a := 40) 104 d_Serving_bitsSigning_37 rfl rfl (by decide) rfl ⟨rfl, hR2 39 1 (by decide)⟩ ?_
      refine ow_gI 96 d_Serving_bitsSigning_40 rfl rfl (by decide) rfl (Or.inl rfl) ?_
      refine ow_bipush (v := (-2)) (by decide) d_Serving_bitsSigning_43 ?_
      refine ow_icmp_eq (tgt := 60) d_Serving_bitsSigning_45 (by decide) (fun c => ?_) (fun c => ?_)
      · replace T := T.1 c
        refine ow_iinc 3 (v := (v3 + 1)) (ls2 := [(3, .int (v3 + 1)), (0, .ref 39), (1, .ref o), (2, .int v2)]) d_Serving_bitsSigning_60 rfl rfl (by decide) rfl ?_
        refine ow_goto (tgt := 4) d_Serving_bitsSigning_63 (by decide) ?_
        refine ow_sub [1, 2, 3, 0] rfl ?_
        exact T
      · replace T := T.2 c
        refine ow_iload_n 2 rfl d_Serving_bitsSigning_48 ?_
        refine ow_iconst (v := 1) (by decide) d_Serving_bitsSigning_49 ?_
        refine ow_aload_n 0 rfl d_Serving_bitsSigning_50 ?_
        refine ow_gR (a := 40) 104 d_Serving_bitsSigning_51 rfl rfl (by decide) rfl ⟨rfl, hR2 39 1 (by decide)⟩ ?_
        refine ow_gI 96 d_Serving_bitsSigning_54 rfl rfl (by decide) rfl (Or.inl rfl) ?_
        refine ow_ishl d_Serving_bitsSigning_57 ?_
        refine ow_ior d_Serving_bitsSigning_58 ?_
        refine ow_istore_n (ls2 := [(2, .int (v2 ||| ((1 : Int32) <<< ((I2 40 3) &&& 31)))), (0, .ref 39), (1, .ref o), (3, .int v3)]) d_Serving_bitsSigning_59 (by decide) rfl ?_
        refine ow_iinc 3 (v := (v3 + 1)) (ls2 := [(3, .int (v3 + 1)), (2, .int (v2 ||| ((1 : Int32) <<< ((I2 40 3) &&& 31)))), (0, .ref 39), (1, .ref o)]) d_Serving_bitsSigning_60 rfl rfl (by decide) rfl ?_
        refine ow_goto (tgt := 4) d_Serving_bitsSigning_63 (by decide) ?_
        refine ow_sub [2, 3, 1, 0] rfl ?_
        exact T
set_option maxRecDepth 4000 in
theorem t_Serving_bitsSigning {d : Nat} {I : Nat → Nat → Int32} {J : Nat → Nat → Int64} {R : Nat → Nat → Option Nat} {Q : Option Value → ow_H → Prop} {o : Nat} (ho : o ∈ [3, 15, 29, 33, 42, 47, 57]) (hR : ow_RF R) (T : ow_AW ow_Y0 (ow_Z Q) M_Serving_bitsSigning (d + 1) 0 0 4 [(0, .ref 39), (1, .ref o), (2, .int 0), (3, .int 0)] [] (85, I, J, R) 0 0) : ow_AM M_Serving_bitsSigning (d + 1) [.ref 39, .ref o] (85, I, J, R) Q := by
  refine ow_enter (by decide) (Nat.le_of_ble_eq_true rfl) ?_
  show ow_AW ow_Y0 (ow_Z Q) M_Serving_bitsSigning (d + 1) 0 0 0 [(0, .ref 39), (1, .ref o)] [] (85, I, J, R) 0 0
  obtain ⟨o_lt, o_kd, o_r3, o_r4, o_r5, o_k1, o_k2, o_k3, o_n1, o_n2, o_n3⟩ := ow_sc_ok o ho
  refine ow_iconst (v := 0) (by decide) d_Serving_bitsSigning_0 ?_
  refine ow_istore_n (ls2 := [(2, .int 0), (0, .ref 39), (1, .ref o)]) d_Serving_bitsSigning_1 (by decide) rfl ?_
  refine ow_iconst (v := 0) (by decide) d_Serving_bitsSigning_2 ?_
  refine ow_istore_n (ls2 := [(3, .int 0), (2, .int 0), (0, .ref 39), (1, .ref o)]) d_Serving_bitsSigning_3 (by decide) rfl ?_
  refine ow_sub [2, 3, 1, 0] rfl ?_
  exact T
set_option maxRecDepth 4000 in
theorem t_Serving_lettersFor_5 {d : Nat} {I : Nat → Nat → Int32} {J : Nat → Nat → Int64} {R : Nat → Nat → Option Nat} {Q : Option Value → ow_H → Prop} {o : Nat} {v2 : Int32} {v3 : Int32} {v4 : Int32} (ho : o ∈ [3, 15, 29, 33, 42, 47, 57]) (hR : ow_RF R) (T : (((2 * (I o 0)) ≤ v4 → Q (some (.int v3)) (85, I, J, R)) ∧ (¬ (2 * (I o 0)) ≤ v4 → (ow_AM M_Serving_bitsServedBy d [.ref 39, .ref o, .int v4] (85, I, J, R) (fun r h' => ∃ (r1 : Int32) (I1 : Nat → Nat → Int32) (J1 : Nat → Nat → Int64) (R1 : Nat → Nat → Option Nat), r = some (.int r1) ∧ h' = (85, I1, J1, R1) ∧ ow_RF R1 ∧ ((((r1 >>> (v2 &&& 31)) &&& 1) = 0 → ow_AW ow_Y0 (ow_Z Q) M_Serving_lettersFor (d + 1) 0 0 5 [(0, .ref 39), (1, .ref o), (2, .int v2), (3, .int v3), (4, .int (v4 + 1))] [] (85, I1, J1, R1) 0 0) ∧ (¬ ((r1 >>> (v2 &&& 31)) &&& 1) = 0 → ow_AW ow_Y0 (ow_Z Q) M_Serving_lettersFor (d + 1) 0 0 5 [(0, .ref 39), (1, .ref o), (2, .int v2), (3, .int (v3 ||| ((1 : Int32) <<< (v4 &&& 31)))), (4, .int (v4 + 1))] [] (85, I1, J1, R1) 0 0))))))) : ow_AW ow_Y0 (ow_Z Q) M_Serving_lettersFor (d + 1) 0 0 5 [(0, .ref 39), (1, .ref o), (2, .int v2), (3, .int v3), (4, .int v4)] [] (85, I, J, R) 0 0 := by
  obtain ⟨o_lt, o_kd, o_r3, o_r4, o_r5, o_k1, o_k2, o_k3, o_n1, o_n2, o_n3⟩ := ow_sc_ok o ho
  refine ow_iload 4 rfl d_Serving_lettersFor_5 ?_
  refine ow_iconst (v := 2) (by decide) d_Serving_lettersFor_7 ?_
  refine ow_aload_n 1 rfl d_Serving_lettersFor_8 ?_
  refine ow_gI 1 d_Serving_lettersFor_9 rfl rfl (by omega) o_kd (Or.inl rfl) ?_
  refine ow_imul d_Serving_lettersFor_12 ?_
  refine ow_icmp_ge (tgt := 43) d_Serving_lettersFor_13 (by decide) (fun c => ?_) (fun c => ?_)
  · replace T := T.1 c
    refine ow_iload_n 3 rfl d_Serving_lettersFor_43 ?_
    exact ow_iret d_Serving_lettersFor_44 rfl T
  · replace T := T.2 c
    refine ow_aload_n 0 rfl d_Serving_lettersFor_16 ?_
    refine ow_aload_n 1 rfl d_Serving_lettersFor_17 ?_
    refine ow_iload 4 rfl d_Serving_lettersFor_18 ?_
    refine ow_callV (b := 39) (cq := 5) (As := [.ref o, .int v4]) (rest := []) (d2 := d) d_Serving_lettersFor_20 l_Serving_33 v_Serving_bitsServedBy (show 39 < 85 by decide) rfl (by decide) rfl (Nat.le_of_ble_eq_true rfl) (Nat.le_refl _) ⟨Nat.le_refl _, Nat.le_refl _⟩ (ow_mono T ?_)
    rintro r h' ⟨r1, I1, J1, R1, rfl, rfl, hR1, T⟩
    show ow_AW ow_Y0 (ow_Z Q) M_Serving_lettersFor (d + 1) 0 0 23 [(0, .ref 39), (1, .ref o), (2, .int v2), (3, .int v3), (4, .int v4)] [.int r1] (85, I1, J1, R1) 0 0
    refine ow_iload_n 2 rfl d_Serving_lettersFor_23 ?_
    refine ow_ishr d_Serving_lettersFor_24 ?_
    refine ow_iconst (v := 1) (by decide) d_Serving_lettersFor_25 ?_
    refine ow_iand d_Serving_lettersFor_26 ?_
    refine ow_if_eq (tgt := 37) d_Serving_lettersFor_27 (by decide) (fun c => ?_) (fun c => ?_)
    · replace T := T.1 c
      refine ow_iinc 4 (v := (v4 + 1)) (ls2 := [(4, .int (v4 + 1)), (0, .ref 39), (1, .ref o), (2, .int v2), (3, .int v3)]) d_Serving_lettersFor_37 rfl rfl (by decide) rfl ?_
      refine ow_goto (tgt := 5) d_Serving_lettersFor_40 (by decide) ?_
      refine ow_sub [1, 2, 3, 4, 0] rfl ?_
      exact T
    · replace T := T.2 c
      refine ow_iload_n 3 rfl d_Serving_lettersFor_30 ?_
      refine ow_iconst (v := 1) (by decide) d_Serving_lettersFor_31 ?_
      refine ow_iload 4 rfl d_Serving_lettersFor_32 ?_
      refine ow_ishl d_Serving_lettersFor_34 ?_
      refine ow_ior d_Serving_lettersFor_35 ?_
      refine ow_istore_n (ls2 := [(3, .int (v3 ||| ((1 : Int32) <<< (v4 &&& 31)))), (0, .ref 39), (1, .ref o), (2, .int v2), (4, .int v4)]) d_Serving_lettersFor_36 (by decide) rfl ?_
      refine ow_iinc 4 (v := (v4 + 1)) (ls2 := [(4, .int (v4 + 1)), (3, .int (v3 ||| ((1 : Int32) <<< (v4 &&& 31)))), (0, .ref 39), (1, .ref o), (2, .int v2)]) d_Serving_lettersFor_37 rfl rfl (by decide) rfl ?_
      refine ow_goto (tgt := 5) d_Serving_lettersFor_40 (by decide) ?_
      refine ow_sub [2, 3, 4, 1, 0] rfl ?_
      exact T
set_option maxRecDepth 4000 in
theorem t_Serving_lettersFor {d : Nat} {I : Nat → Nat → Int32} {J : Nat → Nat → Int64} {R : Nat → Nat → Option Nat} {Q : Option Value → ow_H → Prop} {o : Nat} {p1 : Int32} (ho : o ∈ [3, 15, 29, 33, 42, 47, 57]) (hR : ow_RF R) (T : ow_AW ow_Y0 (ow_Z Q) M_Serving_lettersFor (d + 1) 0 0 5 [(0, .ref 39), (1, .ref o), (2, .int p1), (3, .int 0), (4, .int 0)] [] (85, I, J, R) 0 0) : ow_AM M_Serving_lettersFor (d + 1) [.ref 39, .ref o, .int p1] (85, I, J, R) Q := by
  refine ow_enter (by decide) (Nat.le_of_ble_eq_true rfl) ?_
  show ow_AW ow_Y0 (ow_Z Q) M_Serving_lettersFor (d + 1) 0 0 0 [(0, .ref 39), (1, .ref o), (2, .int p1)] [] (85, I, J, R) 0 0
  obtain ⟨o_lt, o_kd, o_r3, o_r4, o_r5, o_k1, o_k2, o_k3, o_n1, o_n2, o_n3⟩ := ow_sc_ok o ho
  refine ow_iconst (v := 0) (by decide) d_Serving_lettersFor_0 ?_
  refine ow_istore_n (ls2 := [(3, .int 0), (0, .ref 39), (1, .ref o), (2, .int p1)]) d_Serving_lettersFor_1 (by decide) rfl ?_
  refine ow_iconst (v := 0) (by decide) d_Serving_lettersFor_2 ?_
  refine ow_istore (ls2 := [(4, .int 0), (3, .int 0), (0, .ref 39), (1, .ref o), (2, .int p1)]) d_Serving_lettersFor_3 (by decide) rfl ?_
  refine ow_sub [2, 3, 4, 1, 0] rfl ?_
  exact T
set_option maxRecDepth 4000 in
theorem t_Serving_findShortest_14 {d : Nat} {I : Nat → Nat → Int32} {J : Nat → Nat → Int64} {R : Nat → Nat → Option Nat} {Q : Option Value → ow_H → Prop} {o : Nat} {v2 : Int32} {v3 : Int32} (ho : o ∈ [3, 15, 29, 33, 42, 47, 57]) (hR : ow_RF R) (T : (((2 * (I o 0)) ≤ v3 → Q none (85, I, J, R)) ∧ (¬ (2 * (I o 0)) ≤ v3 → (ow_AM M_Serving_bitsServedBy d [.ref 39, .ref o, .int v3] (85, I, J, R) (fun r h' => ∃ (r3 : Int32) (I3 : Nat → Nat → Int32) (J3 : Nat → Nat → Int64) (R3 : Nat → Nat → Option Nat), r = some (.int r3) ∧ h' = (85, I3, J3, R3) ∧ ow_RF R3 ∧ ((((r3 >>> (v2 &&& 31)) &&& 1) = 0 → ow_AW ow_Y0 (ow_Z Q) M_Serving_findShortest (d + 1) 0 0 14 [(0, .ref 39), (1, .ref o), (2, .int v2), (3, .int (v3 + 1))] [] (85, I3, J3, R3) 0 0) ∧ (¬ ((r3 >>> (v2 &&& 31)) &&& 1) = 0 → (((I3 39 3) = (-2) → (∀ (I4 : Nat → Nat → Int32), I4 = ow_u I3 39 3 v3 → (∀ (I5 : Nat → Nat → Int32), I5 = ow_u I4 39 4 (I4 40 2) → ow_AW ow_Y0 (ow_Z Q) M_Serving_findShortest (d + 1) 0 0 14 [(0, .ref 39), (1, .ref o), (2, .int v2), (3, .int (v3 + 1))] [] (85, I5, J3, R3) 0 0))) ∧ (¬ (I3 39 3) = (-2) → (((I3 39 4) ≤ (I3 40 2) → ow_AW ow_Y0 (ow_Z Q) M_Serving_findShortest (d + 1) 0 0 14 [(0, .ref 39), (1, .ref o), (2, .int v2), (3, .int (v3 + 1))] [] (85, I3, J3, R3) 0 0) ∧ (¬ (I3 39 4) ≤ (I3 40 2) → (∀ (I6 : Nat → Nat → Int32), I6 = ow_u I3 39 3 v3 → (∀ (I7 : Nat → Nat → Int32), I7 = ow_u I6 39 4 (I6 40 2) → ow_AW ow_Y0 (ow_Z Q) M_Serving_findShortest (d + 1) 0 0 14 [(0, .ref 39), (1, .ref o), (2, .int v2), (3, .int (v3 + 1))] [] (85, I7, J3, R3) 0 0))))))))))))) : ow_AW ow_Y0 (ow_Z Q) M_Serving_findShortest (d + 1) 0 0 14 [(0, .ref 39), (1, .ref o), (2, .int v2), (3, .int v3)] [] (85, I, J, R) 0 0 := by
  obtain ⟨o_lt, o_kd, o_r3, o_r4, o_r5, o_k1, o_k2, o_k3, o_n1, o_n2, o_n3⟩ := ow_sc_ok o ho
  refine ow_iload_n 3 rfl d_Serving_findShortest_14 ?_
  refine ow_iconst (v := 2) (by decide) d_Serving_findShortest_15 ?_
  refine ow_aload_n 1 rfl d_Serving_findShortest_16 ?_
  refine ow_gI 1 d_Serving_findShortest_17 rfl rfl (by omega) o_kd (Or.inl rfl) ?_
  refine ow_imul d_Serving_findShortest_20 ?_
  refine ow_icmp_ge (tgt := 94) d_Serving_findShortest_21 (by decide) (fun c => ?_) (fun c => ?_)
  · replace T := T.1 c
    exact ow_vret d_Serving_findShortest_94 rfl T
  · replace T := T.2 c
    refine ow_aload_n 0 rfl d_Serving_findShortest_24 ?_
    refine ow_aload_n 1 rfl d_Serving_findShortest_25 ?_
    refine ow_iload_n 3 rfl d_Serving_findShortest_26 ?_
    refine ow_callV (b := 39) (cq := 5) (As := [.ref o, .int v3]) (rest := []) (d2 := d) d_Serving_findShortest_27 l_Serving_33 v_Serving_bitsServedBy (show 39 < 85 by decide) rfl (by decide) rfl (Nat.le_of_ble_eq_true rfl) (Nat.le_refl _) ⟨Nat.le_refl _, Nat.le_refl _⟩ (ow_mono T ?_)
    rintro r h' ⟨r3, I3, J3, R3, rfl, rfl, hR3, T⟩
    show ow_AW ow_Y0 (ow_Z Q) M_Serving_findShortest (d + 1) 0 0 30 [(0, .ref 39), (1, .ref o), (2, .int v2), (3, .int v3)] [.int r3] (85, I3, J3, R3) 0 0
    refine ow_iload_n 2 rfl d_Serving_findShortest_30 ?_
    refine ow_ishr d_Serving_findShortest_31 ?_
    refine ow_iconst (v := 1) (by decide) d_Serving_findShortest_32 ?_
    refine ow_iand d_Serving_findShortest_33 ?_
    refine ow_if_eq (tgt := 41) d_Serving_findShortest_34 (by decide) (fun c => ?_) (fun c => ?_)
    · replace T := T.1 c
      refine ow_iconst (v := 0) (by decide) d_Serving_findShortest_41 ?_
      refine ow_istore (ls2 := [(4, .int 0), (0, .ref 39), (1, .ref o), (2, .int v2), (3, .int v3)]) d_Serving_findShortest_42 (by decide) rfl ?_
      refine ow_iload 0 rfl d_Serving_findShortest_44 ?_
      refine ow_if_eq (tgt := 88) d_Serving_findShortest_46 (by decide) (fun c => ?_) (fun c => ?_)
      · clear c
        refine ow_iinc 4 (v := (v3 + 1)) (ls2 := [(3, .int (v3 + 1)), (4, .int 0), (0, .ref 39), (1, .ref o), (2, .int v2)]) d_Serving_findShortest_88 rfl rfl (by decide) rfl ?_
        refine ow_goto (tgt := 14) d_Serving_findShortest_91 (by decide) ?_
        refine ow_sub [2, 3, 4, 0] rfl ?_
        exact T
      · exact absurd c (by decide)
    · replace T := T.2 c
      refine ow_iconst (v := 1) (by decide) d_Serving_findShortest_37 ?_
      refine ow_goto (tgt := 42) d_Serving_findShortest_38 (by decide) ?_
      refine ow_istore (ls2 := [(4, .int 1), (0, .ref 39), (1, .ref o), (2, .int v2), (3, .int v3)]) d_Serving_findShortest_42 (by decide) rfl ?_
      refine ow_iload 0 rfl d_Serving_findShortest_44 ?_
      refine ow_if_eq (tgt := 88) d_Serving_findShortest_46 (by decide) (fun c => ?_) (fun c => ?_)
      · exact absurd c (by decide)
      · clear c
        refine ow_aload_n 1 rfl d_Serving_findShortest_49 ?_
        refine ow_gI 106 d_Serving_findShortest_50 rfl rfl (by decide) rfl (Or.inl rfl) ?_
        refine ow_bipush (v := (-2)) (by decide) d_Serving_findShortest_53 ?_
        refine ow_icmp_eq (tgt := 72) d_Serving_findShortest_55 (by decide) (fun c => ?_) (fun c => ?_)
        · replace T := T.1 c
          refine ow_aload_n 1 rfl d_Serving_findShortest_72 ?_
          refine ow_iload_n 4 rfl d_Serving_findShortest_73 ?_
          refine ow_pI 106 d_Serving_findShortest_74 rfl rfl (by decide) rfl rfl rfl ?_
          obtain ⟨I4, eI4⟩ : ∃ uu, uu = ow_u I3 39 3 v3 := ⟨_, rfl⟩
          replace T := T I4 eI4
          rw [← eI4]
          refine ow_aload_n 1 rfl d_Serving_findShortest_77 ?_
          refine ow_aload_n 1 rfl d_Serving_findShortest_78 ?_
          refine ow_gR (a := 40) 104 d_Serving_findShortest_79 rfl rfl (by decide) rfl ⟨rfl, hR3 39 1 (by decide)⟩ ?_
          refine ow_gI 93 d_Serving_findShortest_82 rfl rfl (by decide) rfl (Or.inl rfl) ?_
          refine ow_pI 108 d_Serving_findShortest_85 rfl rfl (by decide) rfl rfl rfl ?_
          obtain ⟨I5, eI5⟩ : ∃ uu, uu = ow_u I4 39 4 (I4 40 2) := ⟨_, rfl⟩
          replace T := T I5 eI5
          rw [← eI5]
          refine ow_iinc 4 (v := (v3 + 1)) (ls2 := [(3, .int (v3 + 1)), (4, .int 1), (0, .ref 39), (1, .ref o), (2, .int v2)]) d_Serving_findShortest_88 rfl rfl (by decide) rfl ?_
          refine ow_goto (tgt := 14) d_Serving_findShortest_91 (by decide) ?_
          refine ow_sub [2, 3, 4, 0] rfl ?_
          exact T
        · replace T := T.2 c
          refine ow_aload_n 1 rfl d_Serving_findShortest_58 ?_
          refine ow_gR (a := 40) 104 d_Serving_findShortest_59 rfl rfl (by decide) rfl ⟨rfl, hR3 39 1 (by decide)⟩ ?_
          refine ow_gI 93 d_Serving_findShortest_62 rfl rfl (by decide) rfl (Or.inl rfl) ?_
          refine ow_aload_n 1 rfl d_Serving_findShortest_65 ?_
          refine ow_gI 108 d_Serving_findShortest_66 rfl rfl (by decide) rfl (Or.inl rfl) ?_
          refine ow_icmp_ge (tgt := 88) d_Serving_findShortest_69 (by decide) (fun c => ?_) (fun c => ?_)
          · replace T := T.1 c
            refine ow_iinc 4 (v := (v3 + 1)) (ls2 := [(3, .int (v3 + 1)), (4, .int 1), (0, .ref 39), (1, .ref o), (2, .int v2)]) d_Serving_findShortest_88 rfl rfl (by decide) rfl ?_
            refine ow_goto (tgt := 14) d_Serving_findShortest_91 (by decide) ?_
            refine ow_sub [2, 3, 4, 0] rfl ?_
            exact T
          · replace T := T.2 c
            refine ow_aload_n 1 rfl d_Serving_findShortest_72 ?_
            refine ow_iload_n 4 rfl d_Serving_findShortest_73 ?_
            refine ow_pI 106 d_Serving_findShortest_74 rfl rfl (by decide) rfl rfl rfl ?_
            obtain ⟨I6, eI6⟩ : ∃ uu, uu = ow_u I3 39 3 v3 := ⟨_, rfl⟩
            replace T := T I6 eI6
            rw [← eI6]
            refine ow_aload_n 1 rfl d_Serving_findShortest_77 ?_
            refine ow_aload_n 1 rfl d_Serving_findShortest_78 ?_
            refine ow_gR (a := 40) 104 d_Serving_findShortest_79 rfl rfl (by decide) rfl ⟨rfl, hR3 39 1 (by decide)⟩ ?_
            refine ow_gI 93 d_Serving_findShortest_82 rfl rfl (by decide) rfl (Or.inl rfl) ?_
            refine ow_pI 108 d_Serving_findShortest_85 rfl rfl (by decide) rfl rfl rfl ?_
            obtain ⟨I7, eI7⟩ : ∃ uu, uu = ow_u I6 39 4 (I6 40 2) := ⟨_, rfl⟩
            replace T := T I7 eI7
            rw [← eI7]
            refine ow_iinc 4 (v := (v3 + 1)) (ls2 := [(3, .int (v3 + 1)), (4, .int 1), (0, .ref 39), (1, .ref o), (2, .int v2)]) d_Serving_findShortest_88 rfl rfl (by decide) rfl ?_
            refine ow_goto (tgt := 14) d_Serving_findShortest_91 (by decide) ?_
            refine ow_sub [2, 3, 4, 0] rfl ?_
            exact T
set_option maxRecDepth 4000 in
theorem t_Serving_findShortest {d : Nat} {I : Nat → Nat → Int32} {J : Nat → Nat → Int64} {R : Nat → Nat → Option Nat} {Q : Option Value → ow_H → Prop} {o : Nat} {p1 : Int32} (ho : o ∈ [3, 15, 29, 33, 42, 47, 57]) (hR : ow_RF R) (T : (∀ (I8 : Nat → Nat → Int32), I8 = ow_u I 39 3 (-2) → (∀ (I9 : Nat → Nat → Int32), I9 = ow_u I8 39 4 (-2) → ow_AW ow_Y0 (ow_Z Q) M_Serving_findShortest (d + 1) 0 0 14 [(0, .ref 39), (1, .ref o), (2, .int p1), (3, .int 0)] [] (85, I9, J, R) 0 0))) : ow_AM M_Serving_findShortest (d + 1) [.ref 39, .ref o, .int p1] (85, I, J, R) Q := by
  refine ow_enter (by decide) (Nat.le_of_ble_eq_true rfl) ?_
  show ow_AW ow_Y0 (ow_Z Q) M_Serving_findShortest (d + 1) 0 0 0 [(0, .ref 39), (1, .ref o), (2, .int p1)] [] (85, I, J, R) 0 0
  obtain ⟨o_lt, o_kd, o_r3, o_r4, o_r5, o_k1, o_k2, o_k3, o_n1, o_n2, o_n3⟩ := ow_sc_ok o ho
  refine ow_aload_n 0 rfl d_Serving_findShortest_0 ?_
  refine ow_bipush (v := (-2)) (by decide) d_Serving_findShortest_1 ?_
  refine ow_pI 106 d_Serving_findShortest_3 rfl rfl (by decide) rfl rfl rfl ?_
  obtain ⟨I8, eI8⟩ : ∃ uu, uu = ow_u I 39 3 (-2) := ⟨_, rfl⟩
  replace T := T I8 eI8
  rw [← eI8]
  refine ow_aload_n 0 rfl d_Serving_findShortest_6 ?_
  refine ow_bipush (v := (-2)) (by decide) d_Serving_findShortest_7 ?_
  refine ow_pI 108 d_Serving_findShortest_9 rfl rfl (by decide) rfl rfl rfl ?_
  obtain ⟨I9, eI9⟩ : ∃ uu, uu = ow_u I8 39 4 (-2) := ⟨_, rfl⟩
  replace T := T I9 eI9
  rw [← eI9]
  refine ow_iconst (v := 0) (by decide) d_Serving_findShortest_12 ?_
  refine ow_istore_n (ls2 := [(3, .int 0), (0, .ref 39), (1, .ref o), (2, .int p1)]) d_Serving_findShortest_13 (by decide) rfl ?_
  refine ow_sub [1, 2, 3, 0] rfl ?_
  exact T
set_option maxRecDepth 4000 in
theorem t_Serving_findWidest_8 {d : Nat} {I : Nat → Nat → Int32} {J : Nat → Nat → Int64} {R : Nat → Nat → Option Nat} {Q : Option Value → ow_H → Prop} {o : Nat} {v2 : Int32} {v3 : Int32} {v4 : Int32} (ho : o ∈ [3, 15, 29, 33, 42, 47, 57]) (hR : ow_RF R) (T : (((2 * (I o 0)) ≤ v4 → Q (some (.int v2)) (85, I, J, R)) ∧ (¬ (2 * (I o 0)) ≤ v4 → (ow_AM M_Serving_bitsServedBy d [.ref 39, .ref o, .int v4] (85, I, J, R) (fun r h' => ∃ (r1 : Int32) (I1 : Nat → Nat → Int32) (J1 : Nat → Nat → Int64) (R1 : Nat → Nat → Option Nat), r = some (.int r1) ∧ h' = (85, I1, J1, R1) ∧ ow_RF R1 ∧ (ow_AM M_Integer_bitCount d [.int r1] (85, I1, J1, R1) (fun r h' => ∃ (r2 : Int32) (I2 : Nat → Nat → Int32) (J2 : Nat → Nat → Int64) (R2 : Nat → Nat → Option Nat), r = some (.int r2) ∧ h' = (85, I2, J2, R2) ∧ ow_RF R2 ∧ ((r2 ≤ v3 → ow_AW ow_Y0 (ow_Z Q) M_Serving_findWidest (d + 1) 0 0 8 [(0, .ref 39), (1, .ref o), (2, .int v2), (3, .int v3), (4, .int (v4 + 1))] [] (85, I2, J2, R2) 0 0) ∧ (¬ r2 ≤ v3 → ow_AW ow_Y0 (ow_Z Q) M_Serving_findWidest (d + 1) 0 0 8 [(0, .ref 39), (1, .ref o), (2, .int v4), (3, .int r2), (4, .int (v4 + 1))] [] (85, I2, J2, R2) 0 0))))))))) : ow_AW ow_Y0 (ow_Z Q) M_Serving_findWidest (d + 1) 0 0 8 [(0, .ref 39), (1, .ref o), (2, .int v2), (3, .int v3), (4, .int v4)] [] (85, I, J, R) 0 0 := by
  obtain ⟨o_lt, o_kd, o_r3, o_r4, o_r5, o_k1, o_k2, o_k3, o_n1, o_n2, o_n3⟩ := ow_sc_ok o ho
  refine ow_iload 4 rfl d_Serving_findWidest_8 ?_
  refine ow_iconst (v := 2) (by decide) d_Serving_findWidest_10 ?_
  refine ow_aload_n 1 rfl d_Serving_findWidest_11 ?_
  refine ow_gI 1 d_Serving_findWidest_12 rfl rfl (by omega) o_kd (Or.inl rfl) ?_
  refine ow_imul d_Serving_findWidest_15 ?_
  refine ow_icmp_ge (tgt := 49) d_Serving_findWidest_16 (by decide) (fun c => ?_) (fun c => ?_)
  · replace T := T.1 c
    refine ow_iload_n 2 rfl d_Serving_findWidest_49 ?_
    exact ow_iret d_Serving_findWidest_50 rfl T
  · replace T := T.2 c
    refine ow_aload_n 0 rfl d_Serving_findWidest_19 ?_
    refine ow_aload_n 1 rfl d_Serving_findWidest_20 ?_
    refine ow_iload 4 rfl d_Serving_findWidest_21 ?_
    refine ow_callV (b := 39) (cq := 5) (As := [.ref o, .int v4]) (rest := []) (d2 := d) d_Serving_findWidest_23 l_Serving_33 v_Serving_bitsServedBy (show 39 < 85 by decide) rfl (by decide) rfl (Nat.le_of_ble_eq_true rfl) (Nat.le_refl _) ⟨Nat.le_refl _, Nat.le_refl _⟩ (ow_mono T ?_)
    rintro r h' ⟨r1, I1, J1, R1, rfl, rfl, hR1, T⟩
    show ow_AW ow_Y0 (ow_Z Q) M_Serving_findWidest (d + 1) 0 0 26 [(0, .ref 39), (1, .ref o), (2, .int v2), (3, .int v3), (4, .int v4)] [.int r1] (85, I1, J1, R1) 0 0
    refine ow_callS (As := [.int r1]) (rest := []) (d2 := d) d_Serving_findWidest_26 l_Serving_41 v_Integer_bitCount (Nat.le_of_ble_eq_true rfl) (Nat.le_refl _) ⟨Nat.le_refl _, Nat.le_refl _⟩ (ow_mono T ?_)
    rintro r h' ⟨r2, I2, J2, R2, rfl, rfl, hR2, T⟩
    show ow_AW ow_Y0 (ow_Z Q) M_Serving_findWidest (d + 1) 0 0 29 [(0, .ref 39), (1, .ref o), (2, .int v2), (3, .int v3), (4, .int v4)] [.int r2] (85, I2, J2, R2) 0 0
    refine ow_istore (ls2 := [(5, .int r2), (0, .ref 39), (1, .ref o), (2, .int v2), (3, .int v3), (4, .int v4)]) d_Serving_findWidest_29 (by decide) rfl ?_
    refine ow_iload 0 rfl d_Serving_findWidest_31 ?_
    refine ow_iload_n 4 rfl d_Serving_findWidest_33 ?_
    refine ow_icmp_le (tgt := 43) d_Serving_findWidest_34 (by decide) (fun c => ?_) (fun c => ?_)
    · replace T := T.1 c
      refine ow_iinc 5 (v := (v4 + 1)) (ls2 := [(4, .int (v4 + 1)), (5, .int r2), (0, .ref 39), (1, .ref o), (2, .int v2), (3, .int v3)]) d_Serving_findWidest_43 rfl rfl (by decide) rfl ?_
      refine ow_goto (tgt := 8) d_Serving_findWidest_46 (by decide) ?_
      refine ow_sub [2, 3, 4, 5, 0] rfl ?_
      exact T
    · replace T := T.2 c
      refine ow_iload 0 rfl d_Serving_findWidest_37 ?_
      refine ow_istore_n (ls2 := [(3, .int r2), (5, .int r2), (0, .ref 39), (1, .ref o), (2, .int v2), (4, .int v4)]) d_Serving_findWidest_39 (by decide) rfl ?_
      refine ow_iload 5 rfl d_Serving_findWidest_40 ?_
      refine ow_istore_n (ls2 := [(2, .int v4), (3, .int r2), (5, .int r2), (0, .ref 39), (1, .ref o), (4, .int v4)]) d_Serving_findWidest_42 (by decide) rfl ?_
      refine ow_iinc 5 (v := (v4 + 1)) (ls2 := [(4, .int (v4 + 1)), (2, .int v4), (3, .int r2), (5, .int r2), (0, .ref 39), (1, .ref o)]) d_Serving_findWidest_43 rfl rfl (by decide) rfl ?_
      refine ow_goto (tgt := 8) d_Serving_findWidest_46 (by decide) ?_
      refine ow_sub [4, 5, 1, 2, 0] rfl ?_
      exact T
set_option maxRecDepth 4000 in
theorem t_Serving_findWidest {d : Nat} {I : Nat → Nat → Int32} {J : Nat → Nat → Int64} {R : Nat → Nat → Option Nat} {Q : Option Value → ow_H → Prop} {o : Nat} (ho : o ∈ [3, 15, 29, 33, 42, 47, 57]) (hR : ow_RF R) (T : ow_AW ow_Y0 (ow_Z Q) M_Serving_findWidest (d + 1) 0 0 8 [(0, .ref 39), (1, .ref o), (2, .int (-2)), (3, .int 0), (4, .int 0)] [] (85, I, J, R) 0 0) : ow_AM M_Serving_findWidest (d + 1) [.ref 39, .ref o] (85, I, J, R) Q := by
  refine ow_enter (by decide) (Nat.le_of_ble_eq_true rfl) ?_
  show ow_AW ow_Y0 (ow_Z Q) M_Serving_findWidest (d + 1) 0 0 0 [(0, .ref 39), (1, .ref o)] [] (85, I, J, R) 0 0
  obtain ⟨o_lt, o_kd, o_r3, o_r4, o_r5, o_k1, o_k2, o_k3, o_n1, o_n2, o_n3⟩ := ow_sc_ok o ho
  refine ow_bipush (v := (-2)) (by decide) d_Serving_findWidest_0 ?_
  refine ow_istore_n (ls2 := [(2, .int (-2)), (0, .ref 39), (1, .ref o)]) d_Serving_findWidest_2 (by decide) rfl ?_
  refine ow_iconst (v := 0) (by decide) d_Serving_findWidest_3 ?_
  refine ow_istore_n (ls2 := [(3, .int 0), (2, .int (-2)), (0, .ref 39), (1, .ref o)]) d_Serving_findWidest_4 (by decide) rfl ?_
  refine ow_iconst (v := 0) (by decide) d_Serving_findWidest_5 ?_
  refine ow_istore (ls2 := [(4, .int 0), (3, .int 0), (2, .int (-2)), (0, .ref 39), (1, .ref o)]) d_Serving_findWidest_6 (by decide) rfl ?_
  refine ow_sub [3, 4, 2, 1, 0] rfl ?_
  exact T
set_option maxRecDepth 4000 in
theorem t_Serving_findChange_28 {d : Nat} {I : Nat → Nat → Int32} {J : Nat → Nat → Int64} {R : Nat → Nat → Option Nat} {Q : Option Value → ow_H → Prop} {o : Nat} {v2 : Int32} {v3 : Int32} (ho : o ∈ [3, 15, 29, 33, 42, 47, 57]) (hR : ow_RF R) (T : (((I o 0) ≤ v3 → Q none (85, I, J, R)) ∧ (¬ (I o 0) ≤ v3 → ow_AW ow_Y0 (ow_Z Q) M_Serving_findChange (d + 1) 0 0 39 [(0, .ref 39), (1, .ref o), (2, .int v2), (3, .int v3), (4, .int (-1))] [] (85, I, J, R) 0 0))) : ow_AW ow_Y0 (ow_Z Q) M_Serving_findChange (d + 1) 0 0 28 [(0, .ref 39), (1, .ref o), (2, .int v2), (3, .int v3)] [] (85, I, J, R) 0 0 := by
  obtain ⟨o_lt, o_kd, o_r3, o_r4, o_r5, o_k1, o_k2, o_k3, o_n1, o_n2, o_n3⟩ := ow_sc_ok o ho
  refine ow_iload_n 3 rfl d_Serving_findChange_28 ?_
  refine ow_aload_n 1 rfl d_Serving_findChange_29 ?_
  refine ow_gI 1 d_Serving_findChange_30 rfl rfl (by omega) o_kd (Or.inl rfl) ?_
  refine ow_icmp_ge (tgt := 139) d_Serving_findChange_33 (by decide) (fun c => ?_) (fun c => ?_)
  · replace T := T.1 c
    exact ow_vret d_Serving_findChange_139 rfl T
  · replace T := T.2 c
    refine ow_iconst (v := (-1)) (by decide) d_Serving_findChange_36 ?_
    refine ow_istore (ls2 := [(4, .int (-1)), (0, .ref 39), (1, .ref o), (2, .int v2), (3, .int v3)]) d_Serving_findChange_37 (by decide) rfl ?_
    refine ow_sub [1, 2, 3, 4, 0] rfl ?_
    exact T
set_option maxRecDepth 4000 in
theorem t_Serving_findChange_39 {d : Nat} {I : Nat → Nat → Int32} {J : Nat → Nat → Int64} {R : Nat → Nat → Option Nat} {Q : Option Value → ow_H → Prop} {o : Nat} {v2 : Int32} {v3 : Int32} {v4 : Int32} (ho : o ∈ [3, 15, 29, 33, 42, 47, 57]) (hR : ow_RF R) (T : (((I o 0) ≤ v4 → (vp_in v3 6 ∧ (vp_in v3 6 ∧ (∀ (I5 : Nat → Nat → Int32), I5 = ow_u I 45 (v3.toNatClampNeg) (I (o + 3) v3.toNatClampNeg) → ow_AW ow_Y0 (ow_Z Q) M_Serving_findChange (d + 1) 0 0 28 [(0, .ref 39), (1, .ref o), (2, .int v2), (3, .int (v3 + 1))] [] (85, I5, J, R) 0 0)))) ∧ (¬ (I o 0) ≤ v4 → ((0 ≤ v4 → (ow_AM M_Scene_aim d [.ref 42, .int v3, .int v4] (85, I, J, R) (fun r h' => ∃ (I6 : Nat → Nat → Int32) (J6 : Nat → Nat → Int64) (R6 : Nat → Nat → Option Nat), r = none ∧ h' = (85, I6, J6, R6) ∧ ow_RF R6 ∧ (ow_AM M_Serving_countServed d [.ref 39, .ref 42] (85, I6, J6, R6) (fun r h' => ∃ (r7 : Int32) (I7 : Nat → Nat → Int32) (J7 : Nat → Nat → Int64) (R7 : Nat → Nat → Option Nat), r = some (.int r7) ∧ h' = (85, I7, J7, R7) ∧ ow_RF R7 ∧ ((r7 ≤ v2 → ow_AW ow_Y0 (ow_Z Q) M_Serving_findChange (d + 1) 0 0 39 [(0, .ref 39), (1, .ref o), (2, .int v2), (3, .int v3), (4, .int (v4 + 1))] [] (85, I7, J7, R7) 0 0) ∧ (¬ r7 ≤ v2 → ((0 ≤ v4 → (∀ (I8 : Nat → Nat → Int32), I8 = ow_u I7 39 5 ((10 * v3) + v4) → (∀ (I9 : Nat → Nat → Int32), I9 = ow_u I8 39 6 r7 → ow_AW ow_Y0 (ow_Z Q) M_Serving_findChange (d + 1) 0 0 39 [(0, .ref 39), (1, .ref o), (2, .int r7), (3, .int v3), (4, .int (v4 + 1))] [] (85, I9, J7, R7) 0 0))) ∧ (¬ 0 ≤ v4 → (∀ (I10 : Nat → Nat → Int32), I10 = ow_u I7 39 5 ((10 * v3) + v3) → (∀ (I11 : Nat → Nat → Int32), I11 = ow_u I10 39 6 r7 → ow_AW ow_Y0 (ow_Z Q) M_Serving_findChange (d + 1) 0 0 39 [(0, .ref 39), (1, .ref o), (2, .int r7), (3, .int v3), (4, .int (v4 + 1))] [] (85, I11, J7, R7) 0 0))))))))))) ∧ (¬ 0 ≤ v4 → (ow_AM M_Scene_aim d [.ref 42, .int v3, .int v3] (85, I, J, R) (fun r h' => ∃ (I12 : Nat → Nat → Int32) (J12 : Nat → Nat → Int64) (R12 : Nat → Nat → Option Nat), r = none ∧ h' = (85, I12, J12, R12) ∧ ow_RF R12 ∧ (ow_AM M_Serving_countServed d [.ref 39, .ref 42] (85, I12, J12, R12) (fun r h' => ∃ (r13 : Int32) (I13 : Nat → Nat → Int32) (J13 : Nat → Nat → Int64) (R13 : Nat → Nat → Option Nat), r = some (.int r13) ∧ h' = (85, I13, J13, R13) ∧ ow_RF R13 ∧ ((r13 ≤ v2 → ow_AW ow_Y0 (ow_Z Q) M_Serving_findChange (d + 1) 0 0 39 [(0, .ref 39), (1, .ref o), (2, .int v2), (3, .int v3), (4, .int (v4 + 1))] [] (85, I13, J13, R13) 0 0) ∧ (¬ r13 ≤ v2 → ((0 ≤ v4 → (∀ (I14 : Nat → Nat → Int32), I14 = ow_u I13 39 5 ((10 * v3) + v4) → (∀ (I15 : Nat → Nat → Int32), I15 = ow_u I14 39 6 r13 → ow_AW ow_Y0 (ow_Z Q) M_Serving_findChange (d + 1) 0 0 39 [(0, .ref 39), (1, .ref o), (2, .int r13), (3, .int v3), (4, .int (v4 + 1))] [] (85, I15, J13, R13) 0 0))) ∧ (¬ 0 ≤ v4 → (∀ (I16 : Nat → Nat → Int32), I16 = ow_u I13 39 5 ((10 * v3) + v3) → (∀ (I17 : Nat → Nat → Int32), I17 = ow_u I16 39 6 r13 → ow_AW ow_Y0 (ow_Z Q) M_Serving_findChange (d + 1) 0 0 39 [(0, .ref 39), (1, .ref o), (2, .int r13), (3, .int v3), (4, .int (v4 + 1))] [] (85, I17, J13, R13) 0 0))))))))))))))) : ow_AW ow_Y0 (ow_Z Q) M_Serving_findChange (d + 1) 0 0 39 [(0, .ref 39), (1, .ref o), (2, .int v2), (3, .int v3), (4, .int v4)] [] (85, I, J, R) 0 0 := by
  obtain ⟨o_lt, o_kd, o_r3, o_r4, o_r5, o_k1, o_k2, o_k3, o_n1, o_n2, o_n3⟩ := ow_sc_ok o ho
  refine ow_iload 4 rfl d_Serving_findChange_39 ?_
  refine ow_aload_n 1 rfl d_Serving_findChange_41 ?_
  refine ow_gI 1 d_Serving_findChange_42 rfl rfl (by omega) o_kd (Or.inl rfl) ?_
  refine ow_icmp_ge (tgt := 118) d_Serving_findChange_45 (by decide) (fun c => ?_) (fun c => ?_)
  · replace T := T.1 c
    refine ow_aload_n 0 rfl d_Serving_findChange_118 ?_
    refine ow_gR (a := 42) 105 d_Serving_findChange_119 rfl rfl (by decide) rfl ⟨rfl, hR 39 2 (by decide)⟩ ?_
    refine ow_gR (a := 45) 25 d_Serving_findChange_122 rfl rfl (by decide) rfl ⟨rfl, hR 42 5 (by decide)⟩ ?_
    refine ow_iload_n 3 rfl d_Serving_findChange_125 ?_
    refine ow_aload_n 1 rfl d_Serving_findChange_126 ?_
    refine ow_gR (a := o + 3) 25 d_Serving_findChange_127 rfl rfl (by omega) o_kd ⟨rfl, (hR _ _ (fun q => absurd q.2 (by decide))).trans o_r5⟩ ?_
    refine ow_iload_n 3 rfl d_Serving_findChange_130 ?_
    obtain ⟨cI, T⟩ := T
    refine ow_hiaload d_Serving_findChange_131 (by omega) o_k3 o_n3 cI ?_
    obtain ⟨cI, T⟩ := T
    refine ow_hiastore d_Serving_findChange_132 (by decide) rfl rfl cI ?_
    obtain ⟨I5, eI5⟩ : ∃ uu, uu = ow_u I 45 (v3.toNatClampNeg) (I (o + 3) v3.toNatClampNeg) := ⟨_, rfl⟩
    replace T := T I5 eI5
    rw [← eI5]
    refine ow_iinc 3 (v := (v3 + 1)) (ls2 := [(3, .int (v3 + 1)), (0, .ref 39), (1, .ref o), (2, .int v2), (4, .int v4)]) d_Serving_findChange_133 rfl rfl (by decide) rfl ?_
    refine ow_goto (tgt := 28) d_Serving_findChange_136 (by decide) ?_
    refine ow_sub [1, 2, 3, 0] rfl ?_
    exact T
  · replace T := T.2 c
    refine ow_aload_n 0 rfl d_Serving_findChange_48 ?_
    refine ow_gR (a := 42) 105 d_Serving_findChange_49 rfl rfl (by decide) rfl ⟨rfl, hR 39 2 (by decide)⟩ ?_
    refine ow_iload_n 3 rfl d_Serving_findChange_52 ?_
    refine ow_iload 4 rfl d_Serving_findChange_53 ?_
    refine ow_if_ge (tgt := 62) d_Serving_findChange_55 (by decide) (fun c => ?_) (fun c => ?_)
    · replace T := T.1 c
      refine ow_iload 4 rfl d_Serving_findChange_62 ?_
      refine ow_callV (b := 42) (cq := 4) (As := [.int v3, .int v4]) (rest := []) (d2 := d) d_Serving_findChange_64 l_Serving_76 v_Scene_aim (show 42 < 85 by decide) rfl (by decide) rfl (Nat.le_of_ble_eq_true rfl) (Nat.le_refl _) ⟨Nat.le_refl _, Nat.le_refl _⟩ (ow_mono T ?_)
      rintro r h' ⟨I6, J6, R6, rfl, rfl, hR6, T⟩
      show ow_AW ow_Y0 (ow_Z Q) M_Serving_findChange (d + 1) 0 0 67 [(0, .ref 39), (1, .ref o), (2, .int v2), (3, .int v3), (4, .int v4)] [] (85, I6, J6, R6) 0 0
      refine ow_aload_n 0 rfl d_Serving_findChange_67 ?_
      refine ow_aload_n 0 rfl d_Serving_findChange_68 ?_
      refine ow_gR (a := 42) 105 d_Serving_findChange_69 rfl rfl (by decide) rfl ⟨rfl, hR6 39 2 (by decide)⟩ ?_
      refine ow_callV (b := 39) (cq := 5) (As := [.ref 42]) (rest := []) (d2 := d) d_Serving_findChange_72 l_Serving_69 v_Serving_countServed (show 39 < 85 by decide) rfl (by decide) rfl (Nat.le_of_ble_eq_true rfl) (Nat.le_refl _) ⟨Nat.le_refl _, Nat.le_refl _⟩ (ow_mono T ?_)
      rintro r h' ⟨r7, I7, J7, R7, rfl, rfl, hR7, T⟩
      show ow_AW ow_Y0 (ow_Z Q) M_Serving_findChange (d + 1) 0 0 75 [(0, .ref 39), (1, .ref o), (2, .int v2), (3, .int v3), (4, .int v4)] [.int r7] (85, I7, J7, R7) 0 0
      refine ow_istore (ls2 := [(5, .int r7), (0, .ref 39), (1, .ref o), (2, .int v2), (3, .int v3), (4, .int v4)]) d_Serving_findChange_75 (by decide) rfl ?_
      refine ow_iload 0 rfl d_Serving_findChange_77 ?_
      refine ow_iload_n 3 rfl d_Serving_findChange_79 ?_
      refine ow_icmp_le (tgt := 112) d_Serving_findChange_80 (by decide) (fun c => ?_) (fun c => ?_)
      · replace T := T.1 c
        refine ow_iinc 5 (v := (v4 + 1)) (ls2 := [(4, .int (v4 + 1)), (5, .int r7), (0, .ref 39), (1, .ref o), (2, .int v2), (3, .int v3)]) d_Serving_findChange_112 rfl rfl (by decide) rfl ?_
        refine ow_goto (tgt := 39) d_Serving_findChange_115 (by decide) ?_
        refine ow_sub [2, 3, 4, 5, 0] rfl ?_
        exact T
      · replace T := T.2 c
        refine ow_iload 0 rfl d_Serving_findChange_83 ?_
        refine ow_istore_n (ls2 := [(2, .int r7), (5, .int r7), (0, .ref 39), (1, .ref o), (3, .int v3), (4, .int v4)]) d_Serving_findChange_85 (by decide) rfl ?_
        refine ow_aload_n 2 rfl d_Serving_findChange_86 ?_
        refine ow_bipush (v := 10) (by decide) d_Serving_findChange_87 ?_
        refine ow_iload_n 4 rfl d_Serving_findChange_89 ?_
        refine ow_imul d_Serving_findChange_90 ?_
        refine ow_iload 5 rfl d_Serving_findChange_91 ?_
        refine ow_if_ge (tgt := 100) d_Serving_findChange_93 (by decide) (fun c => ?_) (fun c => ?_)
        · replace T := T.1 c
          refine ow_iload 5 rfl d_Serving_findChange_100 ?_
          refine ow_iadd d_Serving_findChange_102 ?_
          refine ow_pI 110 d_Serving_findChange_103 rfl rfl (by decide) rfl rfl rfl ?_
          obtain ⟨I8, eI8⟩ : ∃ uu, uu = ow_u I7 39 5 ((10 * v3) + v4) := ⟨_, rfl⟩
          replace T := T I8 eI8
          rw [← eI8]
          refine ow_aload_n 2 rfl d_Serving_findChange_106 ?_
          refine ow_iload 1 rfl d_Serving_findChange_107 ?_
          refine ow_pI 112 d_Serving_findChange_109 rfl rfl (by decide) rfl rfl rfl ?_
          obtain ⟨I9, eI9⟩ : ∃ uu, uu = ow_u I8 39 6 r7 := ⟨_, rfl⟩
          replace T := T I9 eI9
          rw [← eI9]
          refine ow_iinc 5 (v := (v4 + 1)) (ls2 := [(4, .int (v4 + 1)), (2, .int r7), (5, .int r7), (0, .ref 39), (1, .ref o), (3, .int v3)]) d_Serving_findChange_112 rfl rfl (by decide) rfl ?_
          refine ow_goto (tgt := 39) d_Serving_findChange_115 (by decide) ?_
          refine ow_sub [3, 4, 1, 5, 0] rfl ?_
          exact T
        · replace T := T.2 c
          refine ow_iload_n 4 rfl d_Serving_findChange_96 ?_
          refine ow_goto (tgt := 102) d_Serving_findChange_97 (by decide) ?_
          refine ow_iadd d_Serving_findChange_102 ?_
          refine ow_pI 110 d_Serving_findChange_103 rfl rfl (by decide) rfl rfl rfl ?_
          obtain ⟨I10, eI10⟩ : ∃ uu, uu = ow_u I7 39 5 ((10 * v3) + v3) := ⟨_, rfl⟩
          replace T := T I10 eI10
          rw [← eI10]
          refine ow_aload_n 2 rfl d_Serving_findChange_106 ?_
          refine ow_iload 1 rfl d_Serving_findChange_107 ?_
          refine ow_pI 112 d_Serving_findChange_109 rfl rfl (by decide) rfl rfl rfl ?_
          obtain ⟨I11, eI11⟩ : ∃ uu, uu = ow_u I10 39 6 r7 := ⟨_, rfl⟩
          replace T := T I11 eI11
          rw [← eI11]
          refine ow_iinc 5 (v := (v4 + 1)) (ls2 := [(4, .int (v4 + 1)), (2, .int r7), (5, .int r7), (0, .ref 39), (1, .ref o), (3, .int v3)]) d_Serving_findChange_112 rfl rfl (by decide) rfl ?_
          refine ow_goto (tgt := 39) d_Serving_findChange_115 (by decide) ?_
          refine ow_sub [3, 4, 1, 5, 0] rfl ?_
          exact T
    · replace T := T.2 c
      refine ow_iload_n 3 rfl d_Serving_findChange_58 ?_
      refine ow_goto (tgt := 64) d_Serving_findChange_59 (by decide) ?_
      refine ow_callV (b := 42) (cq := 4) (As := [.int v3, .int v3]) (rest := []) (d2 := d) d_Serving_findChange_64 l_Serving_76 v_Scene_aim (show 42 < 85 by decide) rfl (by decide) rfl (Nat.le_of_ble_eq_true rfl) (Nat.le_refl _) ⟨Nat.le_refl _, Nat.le_refl _⟩ (ow_mono T ?_)
      rintro r h' ⟨I12, J12, R12, rfl, rfl, hR12, T⟩
      show ow_AW ow_Y0 (ow_Z Q) M_Serving_findChange (d + 1) 0 0 67 [(0, .ref 39), (1, .ref o), (2, .int v2), (3, .int v3), (4, .int v4)] [] (85, I12, J12, R12) 0 0
      refine ow_aload_n 0 rfl d_Serving_findChange_67 ?_
      refine ow_aload_n 0 rfl d_Serving_findChange_68 ?_
      refine ow_gR (a := 42) 105 d_Serving_findChange_69 rfl rfl (by decide) rfl ⟨rfl, hR12 39 2 (by decide)⟩ ?_
      refine ow_callV (b := 39) (cq := 5) (As := [.ref 42]) (rest := []) (d2 := d) d_Serving_findChange_72 l_Serving_69 v_Serving_countServed (show 39 < 85 by decide) rfl (by decide) rfl (Nat.le_of_ble_eq_true rfl) (Nat.le_refl _) ⟨Nat.le_refl _, Nat.le_refl _⟩ (ow_mono T ?_)
      rintro r h' ⟨r13, I13, J13, R13, rfl, rfl, hR13, T⟩
      show ow_AW ow_Y0 (ow_Z Q) M_Serving_findChange (d + 1) 0 0 75 [(0, .ref 39), (1, .ref o), (2, .int v2), (3, .int v3), (4, .int v4)] [.int r13] (85, I13, J13, R13) 0 0
      refine ow_istore (ls2 := [(5, .int r13), (0, .ref 39), (1, .ref o), (2, .int v2), (3, .int v3), (4, .int v4)]) d_Serving_findChange_75 (by decide) rfl ?_
      refine ow_iload 0 rfl d_Serving_findChange_77 ?_
      refine ow_iload_n 3 rfl d_Serving_findChange_79 ?_
      refine ow_icmp_le (tgt := 112) d_Serving_findChange_80 (by decide) (fun c => ?_) (fun c => ?_)
      · replace T := T.1 c
        refine ow_iinc 5 (v := (v4 + 1)) (ls2 := [(4, .int (v4 + 1)), (5, .int r13), (0, .ref 39), (1, .ref o), (2, .int v2), (3, .int v3)]) d_Serving_findChange_112 rfl rfl (by decide) rfl ?_
        refine ow_goto (tgt := 39) d_Serving_findChange_115 (by decide) ?_
        refine ow_sub [2, 3, 4, 5, 0] rfl ?_
        exact T
      · replace T := T.2 c
        refine ow_iload 0 rfl d_Serving_findChange_83 ?_
        refine ow_istore_n (ls2 := [(2, .int r13), (5, .int r13), (0, .ref 39), (1, .ref o), (3, .int v3), (4, .int v4)]) d_Serving_findChange_85 (by decide) rfl ?_
        refine ow_aload_n 2 rfl d_Serving_findChange_86 ?_
        refine ow_bipush (v := 10) (by decide) d_Serving_findChange_87 ?_
        refine ow_iload_n 4 rfl d_Serving_findChange_89 ?_
        refine ow_imul d_Serving_findChange_90 ?_
        refine ow_iload 5 rfl d_Serving_findChange_91 ?_
        refine ow_if_ge (tgt := 100) d_Serving_findChange_93 (by decide) (fun c => ?_) (fun c => ?_)
        · replace T := T.1 c
          refine ow_iload 5 rfl d_Serving_findChange_100 ?_
          refine ow_iadd d_Serving_findChange_102 ?_
          refine ow_pI 110 d_Serving_findChange_103 rfl rfl (by decide) rfl rfl rfl ?_
          obtain ⟨I14, eI14⟩ : ∃ uu, uu = ow_u I13 39 5 ((10 * v3) + v4) := ⟨_, rfl⟩
          replace T := T I14 eI14
          rw [← eI14]
          refine ow_aload_n 2 rfl d_Serving_findChange_106 ?_
          refine ow_iload 1 rfl d_Serving_findChange_107 ?_
          refine ow_pI 112 d_Serving_findChange_109 rfl rfl (by decide) rfl rfl rfl ?_
          obtain ⟨I15, eI15⟩ : ∃ uu, uu = ow_u I14 39 6 r13 := ⟨_, rfl⟩
          replace T := T I15 eI15
          rw [← eI15]
          refine ow_iinc 5 (v := (v4 + 1)) (ls2 := [(4, .int (v4 + 1)), (2, .int r13), (5, .int r13), (0, .ref 39), (1, .ref o), (3, .int v3)]) d_Serving_findChange_112 rfl rfl (by decide) rfl ?_
          refine ow_goto (tgt := 39) d_Serving_findChange_115 (by decide) ?_
          refine ow_sub [3, 4, 1, 5, 0] rfl ?_
          exact T
        · replace T := T.2 c
          refine ow_iload_n 4 rfl d_Serving_findChange_96 ?_
          refine ow_goto (tgt := 102) d_Serving_findChange_97 (by decide) ?_
          refine ow_iadd d_Serving_findChange_102 ?_
          refine ow_pI 110 d_Serving_findChange_103 rfl rfl (by decide) rfl rfl rfl ?_
          obtain ⟨I16, eI16⟩ : ∃ uu, uu = ow_u I13 39 5 ((10 * v3) + v3) := ⟨_, rfl⟩
          replace T := T I16 eI16
          rw [← eI16]
          refine ow_aload_n 2 rfl d_Serving_findChange_106 ?_
          refine ow_iload 1 rfl d_Serving_findChange_107 ?_
          refine ow_pI 112 d_Serving_findChange_109 rfl rfl (by decide) rfl rfl rfl ?_
          obtain ⟨I17, eI17⟩ : ∃ uu, uu = ow_u I16 39 6 r13 := ⟨_, rfl⟩
          replace T := T I17 eI17
          rw [← eI17]
          refine ow_iinc 5 (v := (v4 + 1)) (ls2 := [(4, .int (v4 + 1)), (2, .int r13), (5, .int r13), (0, .ref 39), (1, .ref o), (3, .int v3)]) d_Serving_findChange_112 rfl rfl (by decide) rfl ?_
          refine ow_goto (tgt := 39) d_Serving_findChange_115 (by decide) ?_
          refine ow_sub [3, 4, 1, 5, 0] rfl ?_
          exact T
set_option maxRecDepth 4000 in
theorem t_Serving_findChange {d : Nat} {I : Nat → Nat → Int32} {J : Nat → Nat → Int64} {R : Nat → Nat → Option Nat} {Q : Option Value → ow_H → Prop} {o : Nat} (ho : o ∈ [3, 15, 29, 33, 42, 47, 57]) (hR : ow_RF R) (T : (∀ (I18 : Nat → Nat → Int32), I18 = ow_u I 39 5 (-2) → (∀ (I19 : Nat → Nat → Int32), I19 = ow_u I18 39 6 (-2) → (ow_AM M_Serving_countServed d [.ref 39, .ref o] (85, I19, J, R) (fun r h' => ∃ (r20 : Int32) (I20 : Nat → Nat → Int32) (J20 : Nat → Nat → Int64) (R20 : Nat → Nat → Option Nat), r = some (.int r20) ∧ h' = (85, I20, J20, R20) ∧ ow_RF R20 ∧ (ow_AM M_Scene_take d [.ref 42, .ref o] (85, I20, J20, R20) (fun r h' => ∃ (I21 : Nat → Nat → Int32) (J21 : Nat → Nat → Int64) (R21 : Nat → Nat → Option Nat), r = none ∧ h' = (85, I21, J21, R21) ∧ ow_RF R21 ∧ ow_AW ow_Y0 (ow_Z Q) M_Serving_findChange (d + 1) 0 0 28 [(0, .ref 39), (1, .ref o), (2, .int r20), (3, .int 0)] [] (85, I21, J21, R21) 0 0))))))) : ow_AM M_Serving_findChange (d + 1) [.ref 39, .ref o] (85, I, J, R) Q := by
  refine ow_enter (by decide) (Nat.le_of_ble_eq_true rfl) ?_
  show ow_AW ow_Y0 (ow_Z Q) M_Serving_findChange (d + 1) 0 0 0 [(0, .ref 39), (1, .ref o)] [] (85, I, J, R) 0 0
  obtain ⟨o_lt, o_kd, o_r3, o_r4, o_r5, o_k1, o_k2, o_k3, o_n1, o_n2, o_n3⟩ := ow_sc_ok o ho
  refine ow_aload_n 0 rfl d_Serving_findChange_0 ?_
  refine ow_bipush (v := (-2)) (by decide) d_Serving_findChange_1 ?_
  refine ow_pI 110 d_Serving_findChange_3 rfl rfl (by decide) rfl rfl rfl ?_
  obtain ⟨I18, eI18⟩ : ∃ uu, uu = ow_u I 39 5 (-2) := ⟨_, rfl⟩
  replace T := T I18 eI18
  rw [← eI18]
  refine ow_aload_n 0 rfl d_Serving_findChange_6 ?_
  refine ow_bipush (v := (-2)) (by decide) d_Serving_findChange_7 ?_
  refine ow_pI 112 d_Serving_findChange_9 rfl rfl (by decide) rfl rfl rfl ?_
  obtain ⟨I19, eI19⟩ : ∃ uu, uu = ow_u I18 39 6 (-2) := ⟨_, rfl⟩
  replace T := T I19 eI19
  rw [← eI19]
  refine ow_aload_n 0 rfl d_Serving_findChange_12 ?_
  refine ow_aload_n 1 rfl d_Serving_findChange_13 ?_
  refine ow_callV (b := 39) (cq := 5) (As := [.ref o]) (rest := []) (d2 := d) d_Serving_findChange_14 l_Serving_69 v_Serving_countServed (show 39 < 85 by decide) rfl (by decide) rfl (Nat.le_of_ble_eq_true rfl) (Nat.le_refl _) ⟨Nat.le_refl _, Nat.le_refl _⟩ (ow_mono T ?_)
  rintro r h' ⟨r20, I20, J20, R20, rfl, rfl, hR20, T⟩
  show ow_AW ow_Y0 (ow_Z Q) M_Serving_findChange (d + 1) 0 0 17 [(0, .ref 39), (1, .ref o)] [.int r20] (85, I20, J20, R20) 0 0
  refine ow_istore_n (ls2 := [(2, .int r20), (0, .ref 39), (1, .ref o)]) d_Serving_findChange_17 (by decide) rfl ?_
  refine ow_aload_n 1 rfl d_Serving_findChange_18 ?_
  refine ow_gR (a := 42) 105 d_Serving_findChange_19 rfl rfl (by decide) rfl ⟨rfl, hR20 39 2 (by decide)⟩ ?_
  refine ow_aload_n 2 rfl d_Serving_findChange_22 ?_
  refine ow_callV (b := 42) (cq := 4) (As := [.ref o]) (rest := []) (d2 := d) d_Serving_findChange_23 l_Serving_72 v_Scene_take (show 42 < 85 by decide) rfl (by decide) rfl (Nat.le_of_ble_eq_true rfl) (Nat.le_refl _) ⟨Nat.le_refl _, Nat.le_refl _⟩ (ow_mono T ?_)
  rintro r h' ⟨I21, J21, R21, rfl, rfl, hR21, T⟩
  show ow_AW ow_Y0 (ow_Z Q) M_Serving_findChange (d + 1) 0 0 26 [(2, .int r20), (0, .ref 39), (1, .ref o)] [] (85, I21, J21, R21) 0 0
  refine ow_iconst (v := 0) (by decide) d_Serving_findChange_26 ?_
  refine ow_istore_n (ls2 := [(3, .int 0), (2, .int r20), (0, .ref 39), (1, .ref o)]) d_Serving_findChange_27 (by decide) rfl ?_
  refine ow_sub [2, 3, 1, 0] rfl ?_
  exact T
set_option maxRecDepth 4000 in
theorem t_Serving_fewestKept_25 {d : Nat} {I : Nat → Nat → Int32} {J : Nat → Nat → Int64} {R : Nat → Nat → Option Nat} {Q : Option Value → ow_H → Prop} {o : Nat} {v2 : Int32} {v3 : Int32} {v4 : Int32} {v5 : Int32} (ho : o ∈ [3, 15, 29, 33, 42, 47, 57]) (hR : ow_RF R) (T : ((64 ≤ v5 → Q (some (.int v4)) (85, I, J, R)) ∧ (¬ 64 ≤ v5 → (ow_AM M_Integer_bitCount d [.int v5] (85, I, J, R) (fun r h' => ∃ (r4 : Int32) (I4 : Nat → Nat → Int32) (J4 : Nat → Nat → Int64) (R4 : Nat → Nat → Option Nat), r = some (.int r4) ∧ h' = (85, I4, J4, R4) ∧ ow_RF R4 ∧ (ow_AM M_Integer_bitCount d [.int v4] (85, I4, J4, R4) (fun r h' => ∃ (r5 : Int32) (I5 : Nat → Nat → Int32) (J5 : Nat → Nat → Int64) (R5 : Nat → Nat → Option Nat), r = some (.int r5) ∧ h' = (85, I5, J5, R5) ∧ ow_RF R5 ∧ ((r4 < r5 → ((¬ (v5 &&& (v3 ^^^ (-1))) = 0 → ow_AW ow_Y0 (ow_Z Q) M_Serving_fewestKept (d + 1) 0 0 25 [(0, .ref 39), (2, .int v2), (3, .int v3), (4, .int v4), (5, .int (v5 + 1))] [] (85, I5, J5, R5) 0 0) ∧ ((v5 &&& (v3 ^^^ (-1))) = 0 → (ow_AM M_Scene_standBy d [.ref 42, .int v5] (85, I5, J5, R5) (fun r h' => ∃ (I6 : Nat → Nat → Int32) (J6 : Nat → Nat → Int64) (R6 : Nat → Nat → Option Nat), r = none ∧ h' = (85, I6, J6, R6) ∧ ow_RF R6 ∧ (ow_AM M_Serving_bitsServed d [.ref 39, .ref 42] (85, I6, J6, R6) (fun r h' => ∃ (r7 : Int32) (I7 : Nat → Nat → Int32) (J7 : Nat → Nat → Int64) (R7 : Nat → Nat → Option Nat), r = some (.int r7) ∧ h' = (85, I7, J7, R7) ∧ ow_RF R7 ∧ ((¬ (v2 &&& (r7 ^^^ (-1))) = 0 → ow_AW ow_Y0 (ow_Z Q) M_Serving_fewestKept (d + 1) 0 0 25 [(0, .ref 39), (2, .int v2), (3, .int v3), (4, .int v4), (5, .int (v5 + 1))] [] (85, I7, J7, R7) 0 0) ∧ ((v2 &&& (r7 ^^^ (-1))) = 0 → ow_AW ow_Y0 (ow_Z Q) M_Serving_fewestKept (d + 1) 0 0 25 [(0, .ref 39), (2, .int v2), (3, .int v3), (4, .int v5), (5, .int (v5 + 1))] [] (85, I7, J7, R7) 0 0))))))))) ∧ (¬ r4 < r5 → (ow_AM M_Integer_bitCount d [.int v5] (85, I5, J5, R5) (fun r h' => ∃ (r8 : Int32) (I8 : Nat → Nat → Int32) (J8 : Nat → Nat → Int64) (R8 : Nat → Nat → Option Nat), r = some (.int r8) ∧ h' = (85, I8, J8, R8) ∧ ow_RF R8 ∧ (ow_AM M_Integer_bitCount d [.int v4] (85, I8, J8, R8) (fun r h' => ∃ (r9 : Int32) (I9 : Nat → Nat → Int32) (J9 : Nat → Nat → Int64) (R9 : Nat → Nat → Option Nat), r = some (.int r9) ∧ h' = (85, I9, J9, R9) ∧ ow_RF R9 ∧ ((¬ r8 = r9 → ((¬ (v5 &&& (v3 ^^^ (-1))) = 0 → ow_AW ow_Y0 (ow_Z Q) M_Serving_fewestKept (d + 1) 0 0 25 [(0, .ref 39), (2, .int v2), (3, .int v3), (4, .int v4), (5, .int (v5 + 1))] [] (85, I9, J9, R9) 0 0) ∧ ((v5 &&& (v3 ^^^ (-1))) = 0 → ow_AW ow_Y0 (ow_Z Q) M_Serving_fewestKept (d + 1) 0 0 25 [(0, .ref 39), (2, .int v2), (3, .int v3), (4, .int v4), (5, .int (v5 + 1))] [] (85, I9, J9, R9) 0 0))) ∧ (r8 = r9 → ((v4 ≤ v5 → ((¬ (v5 &&& (v3 ^^^ (-1))) = 0 → ow_AW ow_Y0 (ow_Z Q) M_Serving_fewestKept (d + 1) 0 0 25 [(0, .ref 39), (2, .int v2), (3, .int v3), (4, .int v4), (5, .int (v5 + 1))] [] (85, I9, J9, R9) 0 0) ∧ ((v5 &&& (v3 ^^^ (-1))) = 0 → ow_AW ow_Y0 (ow_Z Q) M_Serving_fewestKept (d + 1) 0 0 25 [(0, .ref 39), (2, .int v2), (3, .int v3), (4, .int v4), (5, .int (v5 + 1))] [] (85, I9, J9, R9) 0 0))) ∧ (¬ v4 ≤ v5 → ((¬ (v5 &&& (v3 ^^^ (-1))) = 0 → ow_AW ow_Y0 (ow_Z Q) M_Serving_fewestKept (d + 1) 0 0 25 [(0, .ref 39), (2, .int v2), (3, .int v3), (4, .int v4), (5, .int (v5 + 1))] [] (85, I9, J9, R9) 0 0) ∧ ((v5 &&& (v3 ^^^ (-1))) = 0 → (ow_AM M_Scene_standBy d [.ref 42, .int v5] (85, I9, J9, R9) (fun r h' => ∃ (I10 : Nat → Nat → Int32) (J10 : Nat → Nat → Int64) (R10 : Nat → Nat → Option Nat), r = none ∧ h' = (85, I10, J10, R10) ∧ ow_RF R10 ∧ (ow_AM M_Serving_bitsServed d [.ref 39, .ref 42] (85, I10, J10, R10) (fun r h' => ∃ (r11 : Int32) (I11 : Nat → Nat → Int32) (J11 : Nat → Nat → Int64) (R11 : Nat → Nat → Option Nat), r = some (.int r11) ∧ h' = (85, I11, J11, R11) ∧ ow_RF R11 ∧ ((¬ (v2 &&& (r11 ^^^ (-1))) = 0 → ow_AW ow_Y0 (ow_Z Q) M_Serving_fewestKept (d + 1) 0 0 25 [(0, .ref 39), (2, .int v2), (3, .int v3), (4, .int v4), (5, .int (v5 + 1))] [] (85, I11, J11, R11) 0 0) ∧ ((v2 &&& (r11 ^^^ (-1))) = 0 → ow_AW ow_Y0 (ow_Z Q) M_Serving_fewestKept (d + 1) 0 0 25 [(0, .ref 39), (2, .int v2), (3, .int v3), (4, .int v5), (5, .int (v5 + 1))] [] (85, I11, J11, R11) 0 0))))))))))))))))))))))))) : ow_AW ow_Y0 (ow_Z Q) M_Serving_fewestKept (d + 1) 0 0 25 [(0, .ref 39), (2, .int v2), (3, .int v3), (4, .int v4), (5, .int v5)] [] (85, I, J, R) 0 0 := by
  obtain ⟨o_lt, o_kd, o_r3, o_r4, o_r5, o_k1, o_k2, o_k3, o_n1, o_n2, o_n3⟩ := ow_sc_ok o ho
  refine ow_iload 4 rfl d_Serving_fewestKept_25 ?_
  refine ow_bipush (v := 64) (by decide) d_Serving_fewestKept_27 ?_
  refine ow_icmp_ge (tgt := 123) d_Serving_fewestKept_29 (by decide) (fun c => ?_) (fun c => ?_)
  · replace T := T.1 c
    refine ow_iload 3 rfl d_Serving_fewestKept_123 ?_
    exact ow_iret d_Serving_fewestKept_125 rfl T
  · replace T := T.2 c
    refine ow_iload 4 rfl d_Serving_fewestKept_32 ?_
    refine ow_callS (As := [.int v5]) (rest := []) (d2 := d) d_Serving_fewestKept_34 l_Serving_41 v_Integer_bitCount (Nat.le_of_ble_eq_true rfl) (Nat.le_refl _) ⟨Nat.le_refl _, Nat.le_refl _⟩ (ow_mono T ?_)
    rintro r h' ⟨r4, I4, J4, R4, rfl, rfl, hR4, T⟩
    show ow_AW ow_Y0 (ow_Z Q) M_Serving_fewestKept (d + 1) 0 0 37 [(0, .ref 39), (2, .int v2), (3, .int v3), (4, .int v4), (5, .int v5)] [.int r4] (85, I4, J4, R4) 0 0
    refine ow_iload 3 rfl d_Serving_fewestKept_37 ?_
    refine ow_callS (As := [.int v4]) (rest := [.int r4]) (d2 := d) d_Serving_fewestKept_39 l_Serving_41 v_Integer_bitCount (Nat.le_of_ble_eq_true rfl) (Nat.le_refl _) ⟨Nat.le_refl _, Nat.le_refl _⟩ (ow_mono T ?_)
    rintro r h' ⟨r5, I5, J5, R5, rfl, rfl, hR5, T⟩
    show ow_AW ow_Y0 (ow_Z Q) M_Serving_fewestKept (d + 1) 0 0 42 [(0, .ref 39), (2, .int v2), (3, .int v3), (4, .int v4), (5, .int v5)] [.int r5, .int r4] (85, I5, J5, R5) 0 0
    refine ow_icmp_lt (tgt := 65) d_Serving_fewestKept_42 (by decide) (fun c => ?_) (fun c => ?_)
    · replace T := T.1 c
      refine ow_iconst (v := 1) (by decide) d_Serving_fewestKept_65 ?_
      refine ow_goto (tgt := 70) d_Serving_fewestKept_66 (by decide) ?_
      refine ow_istore (ls2 := [(6, .int 1), (0, .ref 39), (2, .int v2), (3, .int v3), (4, .int v4), (5, .int v5)]) d_Serving_fewestKept_70 (by decide) rfl ?_
      refine ow_iload 5 rfl d_Serving_fewestKept_72 ?_
      refine ow_iload_n 3 rfl d_Serving_fewestKept_74 ?_
      refine ow_iconst (v := (-1)) (by decide) d_Serving_fewestKept_75 ?_
      refine ow_ixor d_Serving_fewestKept_76 ?_
      refine ow_iand d_Serving_fewestKept_77 ?_
      refine ow_if_ne (tgt := 117) d_Serving_fewestKept_78 (by decide) (fun c => ?_) (fun c => ?_)
      · replace T := T.1 c
        refine ow_iinc 5 (v := (v5 + 1)) (ls2 := [(5, .int (v5 + 1)), (6, .int 1), (0, .ref 39), (2, .int v2), (3, .int v3), (4, .int v4)]) d_Serving_fewestKept_117 rfl rfl (by decide) rfl ?_
        refine ow_goto (tgt := 25) d_Serving_fewestKept_120 (by decide) ?_
        refine ow_sub [2, 3, 4, 5, 0] rfl ?_
        exact T
      · replace T := T.2 c
        refine ow_iload 0 rfl d_Serving_fewestKept_81 ?_
        refine ow_if_ne (tgt := 89) d_Serving_fewestKept_83 (by decide) (fun c => ?_) (fun c => ?_)
        · clear c
          refine ow_aload_n 1 rfl d_Serving_fewestKept_89 ?_
          refine ow_gR (a := 42) 105 d_Serving_fewestKept_90 rfl rfl (by decide) rfl ⟨rfl, hR5 39 2 (by decide)⟩ ?_
          refine ow_iload 5 rfl d_Serving_fewestKept_93 ?_
          refine ow_callV (b := 42) (cq := 4) (As := [.int v5]) (rest := []) (d2 := d) d_Serving_fewestKept_95 l_Serving_88 v_Scene_standBy (show 42 < 85 by decide) rfl (by decide) rfl (Nat.le_of_ble_eq_true rfl) (Nat.le_refl _) ⟨Nat.le_refl _, Nat.le_refl _⟩ (ow_mono T ?_)
          rintro r h' ⟨I6, J6, R6, rfl, rfl, hR6, T⟩
          show ow_AW ow_Y0 (ow_Z Q) M_Serving_fewestKept (d + 1) 0 0 98 [(6, .int 1), (0, .ref 39), (2, .int v2), (3, .int v3), (4, .int v4), (5, .int v5)] [] (85, I6, J6, R6) 0 0
          refine ow_iload_n 2 rfl d_Serving_fewestKept_98 ?_
          refine ow_aload_n 1 rfl d_Serving_fewestKept_99 ?_
          refine ow_aload_n 1 rfl d_Serving_fewestKept_100 ?_
          refine ow_gR (a := 42) 105 d_Serving_fewestKept_101 rfl rfl (by decide) rfl ⟨rfl, hR6 39 2 (by decide)⟩ ?_
          refine ow_callV (b := 39) (cq := 5) (As := [.ref 42]) (rest := [.int v2]) (d2 := d) d_Serving_fewestKept_104 l_Serving_37 v_Serving_bitsServed (show 39 < 85 by decide) rfl (by decide) rfl (Nat.le_of_ble_eq_true rfl) (Nat.le_refl _) ⟨Nat.le_refl _, Nat.le_refl _⟩ (ow_mono T ?_)
          rintro r h' ⟨r7, I7, J7, R7, rfl, rfl, hR7, T⟩
          show ow_AW ow_Y0 (ow_Z Q) M_Serving_fewestKept (d + 1) 0 0 107 [(6, .int 1), (0, .ref 39), (2, .int v2), (3, .int v3), (4, .int v4), (5, .int v5)] [.int r7, .int v2] (85, I7, J7, R7) 0 0
          refine ow_iconst (v := (-1)) (by decide) d_Serving_fewestKept_107 ?_
          refine ow_ixor d_Serving_fewestKept_108 ?_
          refine ow_iand d_Serving_fewestKept_109 ?_
          refine ow_if_ne (tgt := 117) d_Serving_fewestKept_110 (by decide) (fun c => ?_) (fun c => ?_)
          · replace T := T.1 c
            refine ow_iinc 5 (v := (v5 + 1)) (ls2 := [(5, .int (v5 + 1)), (6, .int 1), (0, .ref 39), (2, .int v2), (3, .int v3), (4, .int v4)]) d_Serving_fewestKept_117 rfl rfl (by decide) rfl ?_
            refine ow_goto (tgt := 25) d_Serving_fewestKept_120 (by decide) ?_
            refine ow_sub [2, 3, 4, 5, 0] rfl ?_
            exact T
          · replace T := T.2 c
            refine ow_iload 5 rfl d_Serving_fewestKept_113 ?_
            refine ow_istore (ls2 := [(4, .int v5), (6, .int 1), (0, .ref 39), (2, .int v2), (3, .int v3), (5, .int v5)]) d_Serving_fewestKept_115 (by decide) rfl ?_
            refine ow_iinc 5 (v := (v5 + 1)) (ls2 := [(5, .int (v5 + 1)), (4, .int v5), (6, .int 1), (0, .ref 39), (2, .int v2), (3, .int v3)]) d_Serving_fewestKept_117 rfl rfl (by decide) rfl ?_
            refine ow_goto (tgt := 25) d_Serving_fewestKept_120 (by decide) ?_
            refine ow_sub [3, 4, 5, 1, 0] rfl ?_
            exact T
        · exact absurd c (by decide)
    · replace T := T.2 c
      refine ow_iload 4 rfl d_Serving_fewestKept_45 ?_
      refine ow_callS (As := [.int v5]) (rest := []) (d2 := d) d_Serving_fewestKept_47 l_Serving_41 v_Integer_bitCount (Nat.le_of_ble_eq_true rfl) (Nat.le_refl _) ⟨Nat.le_refl _, Nat.le_refl _⟩ (ow_mono T ?_)
      rintro r h' ⟨r8, I8, J8, R8, rfl, rfl, hR8, T⟩
      show ow_AW ow_Y0 (ow_Z Q) M_Serving_fewestKept (d + 1) 0 0 50 [(0, .ref 39), (2, .int v2), (3, .int v3), (4, .int v4), (5, .int v5)] [.int r8] (85, I8, J8, R8) 0 0
      refine ow_iload 3 rfl d_Serving_fewestKept_50 ?_
      refine ow_callS (As := [.int v4]) (rest := [.int r8]) (d2 := d) d_Serving_fewestKept_52 l_Serving_41 v_Integer_bitCount (Nat.le_of_ble_eq_true rfl) (Nat.le_refl _) ⟨Nat.le_refl _, Nat.le_refl _⟩ (ow_mono T ?_)
      rintro r h' ⟨r9, I9, J9, R9, rfl, rfl, hR9, T⟩
      show ow_AW ow_Y0 (ow_Z Q) M_Serving_fewestKept (d + 1) 0 0 55 [(0, .ref 39), (2, .int v2), (3, .int v3), (4, .int v4), (5, .int v5)] [.int r9, .int r8] (85, I9, J9, R9) 0 0
      refine ow_icmp_ne (tgt := 69) d_Serving_fewestKept_55 (by decide) (fun c => ?_) (fun c => ?_)
      · replace T := T.1 c
        refine ow_iconst (v := 0) (by decide) d_Serving_fewestKept_69 ?_
        refine ow_istore (ls2 := [(6, .int 0), (0, .ref 39), (2, .int v2), (3, .int v3), (4, .int v4), (5, .int v5)]) d_Serving_fewestKept_70 (by decide) rfl ?_
        refine ow_iload 5 rfl d_Serving_fewestKept_72 ?_
        refine ow_iload_n 3 rfl d_Serving_fewestKept_74 ?_
        refine ow_iconst (v := (-1)) (by decide) d_Serving_fewestKept_75 ?_
        refine ow_ixor d_Serving_fewestKept_76 ?_
        refine ow_iand d_Serving_fewestKept_77 ?_
        refine ow_if_ne (tgt := 117) d_Serving_fewestKept_78 (by decide) (fun c => ?_) (fun c => ?_)
        · replace T := T.1 c
          refine ow_iinc 5 (v := (v5 + 1)) (ls2 := [(5, .int (v5 + 1)), (6, .int 0), (0, .ref 39), (2, .int v2), (3, .int v3), (4, .int v4)]) d_Serving_fewestKept_117 rfl rfl (by decide) rfl ?_
          refine ow_goto (tgt := 25) d_Serving_fewestKept_120 (by decide) ?_
          refine ow_sub [2, 3, 4, 5, 0] rfl ?_
          exact T
        · replace T := T.2 c
          refine ow_iload 0 rfl d_Serving_fewestKept_81 ?_
          refine ow_if_ne (tgt := 89) d_Serving_fewestKept_83 (by decide) (fun c => ?_) (fun c => ?_)
          · exact absurd c (by decide)
          · clear c
            refine ow_goto (tgt := 117) d_Serving_fewestKept_86 (by decide) ?_
            refine ow_iinc 5 (v := (v5 + 1)) (ls2 := [(5, .int (v5 + 1)), (6, .int 0), (0, .ref 39), (2, .int v2), (3, .int v3), (4, .int v4)]) d_Serving_fewestKept_117 rfl rfl (by decide) rfl ?_
            refine ow_goto (tgt := 25) d_Serving_fewestKept_120 (by decide) ?_
            refine ow_sub [2, 3, 4, 5, 0] rfl ?_
            exact T
      · replace T := T.2 c
        refine ow_iload 4 rfl d_Serving_fewestKept_58 ?_
        refine ow_iload 3 rfl d_Serving_fewestKept_60 ?_
        refine ow_icmp_ge (tgt := 69) d_Serving_fewestKept_62 (by decide) (fun c => ?_) (fun c => ?_)
        · replace T := T.1 c
          refine ow_iconst (v := 0) (by decide) d_Serving_fewestKept_69 ?_
          refine ow_istore (ls2 := [(6, .int 0), (0, .ref 39), (2, .int v2), (3, .int v3), (4, .int v4), (5, .int v5)]) d_Serving_fewestKept_70 (by decide) rfl ?_
          refine ow_iload 5 rfl d_Serving_fewestKept_72 ?_
          refine ow_iload_n 3 rfl d_Serving_fewestKept_74 ?_
          refine ow_iconst (v := (-1)) (by decide) d_Serving_fewestKept_75 ?_
          refine ow_ixor d_Serving_fewestKept_76 ?_
          refine ow_iand d_Serving_fewestKept_77 ?_
          refine ow_if_ne (tgt := 117) d_Serving_fewestKept_78 (by decide) (fun c => ?_) (fun c => ?_)
          · replace T := T.1 c
            refine ow_iinc 5 (v := (v5 + 1)) (ls2 := [(5, .int (v5 + 1)), (6, .int 0), (0, .ref 39), (2, .int v2), (3, .int v3), (4, .int v4)]) d_Serving_fewestKept_117 rfl rfl (by decide) rfl ?_
            refine ow_goto (tgt := 25) d_Serving_fewestKept_120 (by decide) ?_
            refine ow_sub [2, 3, 4, 5, 0] rfl ?_
            exact T
          · replace T := T.2 c
            refine ow_iload 0 rfl d_Serving_fewestKept_81 ?_
            refine ow_if_ne (tgt := 89) d_Serving_fewestKept_83 (by decide) (fun c => ?_) (fun c => ?_)
            · exact absurd c (by decide)
            · clear c
              refine ow_goto (tgt := 117) d_Serving_fewestKept_86 (by decide) ?_
              refine ow_iinc 5 (v := (v5 + 1)) (ls2 := [(5, .int (v5 + 1)), (6, .int 0), (0, .ref 39), (2, .int v2), (3, .int v3), (4, .int v4)]) d_Serving_fewestKept_117 rfl rfl (by decide) rfl ?_
              refine ow_goto (tgt := 25) d_Serving_fewestKept_120 (by decide) ?_
              refine ow_sub [2, 3, 4, 5, 0] rfl ?_
              exact T
        · replace T := T.2 c
          refine ow_iconst (v := 1) (by decide) d_Serving_fewestKept_65 ?_
          refine ow_goto (tgt := 70) d_Serving_fewestKept_66 (by decide) ?_
          refine ow_istore (ls2 := [(6, .int 1), (0, .ref 39), (2, .int v2), (3, .int v3), (4, .int v4), (5, .int v5)]) d_Serving_fewestKept_70 (by decide) rfl ?_
          refine ow_iload 5 rfl d_Serving_fewestKept_72 ?_
          refine ow_iload_n 3 rfl d_Serving_fewestKept_74 ?_
          refine ow_iconst (v := (-1)) (by decide) d_Serving_fewestKept_75 ?_
          refine ow_ixor d_Serving_fewestKept_76 ?_
          refine ow_iand d_Serving_fewestKept_77 ?_
          refine ow_if_ne (tgt := 117) d_Serving_fewestKept_78 (by decide) (fun c => ?_) (fun c => ?_)
          · replace T := T.1 c
            refine ow_iinc 5 (v := (v5 + 1)) (ls2 := [(5, .int (v5 + 1)), (6, .int 1), (0, .ref 39), (2, .int v2), (3, .int v3), (4, .int v4)]) d_Serving_fewestKept_117 rfl rfl (by decide) rfl ?_
            refine ow_goto (tgt := 25) d_Serving_fewestKept_120 (by decide) ?_
            refine ow_sub [2, 3, 4, 5, 0] rfl ?_
            exact T
          · replace T := T.2 c
            refine ow_iload 0 rfl d_Serving_fewestKept_81 ?_
            refine ow_if_ne (tgt := 89) d_Serving_fewestKept_83 (by decide) (fun c => ?_) (fun c => ?_)
            · clear c
              refine ow_aload_n 1 rfl d_Serving_fewestKept_89 ?_
              refine ow_gR (a := 42) 105 d_Serving_fewestKept_90 rfl rfl (by decide) rfl ⟨rfl, hR9 39 2 (by decide)⟩ ?_
              refine ow_iload 5 rfl d_Serving_fewestKept_93 ?_
              refine ow_callV (b := 42) (cq := 4) (As := [.int v5]) (rest := []) (d2 := d) d_Serving_fewestKept_95 l_Serving_88 v_Scene_standBy (show 42 < 85 by decide) rfl (by decide) rfl (Nat.le_of_ble_eq_true rfl) (Nat.le_refl _) ⟨Nat.le_refl _, Nat.le_refl _⟩ (ow_mono T ?_)
              rintro r h' ⟨I10, J10, R10, rfl, rfl, hR10, T⟩
              show ow_AW ow_Y0 (ow_Z Q) M_Serving_fewestKept (d + 1) 0 0 98 [(6, .int 1), (0, .ref 39), (2, .int v2), (3, .int v3), (4, .int v4), (5, .int v5)] [] (85, I10, J10, R10) 0 0
              refine ow_iload_n 2 rfl d_Serving_fewestKept_98 ?_
              refine ow_aload_n 1 rfl d_Serving_fewestKept_99 ?_
              refine ow_aload_n 1 rfl d_Serving_fewestKept_100 ?_
              refine ow_gR (a := 42) 105 d_Serving_fewestKept_101 rfl rfl (by decide) rfl ⟨rfl, hR10 39 2 (by decide)⟩ ?_
              refine ow_callV (b := 39) (cq := 5) (As := [.ref 42]) (rest := [.int v2]) (d2 := d) d_Serving_fewestKept_104 l_Serving_37 v_Serving_bitsServed (show 39 < 85 by decide) rfl (by decide) rfl (Nat.le_of_ble_eq_true rfl) (Nat.le_refl _) ⟨Nat.le_refl _, Nat.le_refl _⟩ (ow_mono T ?_)
              rintro r h' ⟨r11, I11, J11, R11, rfl, rfl, hR11, T⟩
              show ow_AW ow_Y0 (ow_Z Q) M_Serving_fewestKept (d + 1) 0 0 107 [(6, .int 1), (0, .ref 39), (2, .int v2), (3, .int v3), (4, .int v4), (5, .int v5)] [.int r11, .int v2] (85, I11, J11, R11) 0 0
              refine ow_iconst (v := (-1)) (by decide) d_Serving_fewestKept_107 ?_
              refine ow_ixor d_Serving_fewestKept_108 ?_
              refine ow_iand d_Serving_fewestKept_109 ?_
              refine ow_if_ne (tgt := 117) d_Serving_fewestKept_110 (by decide) (fun c => ?_) (fun c => ?_)
              · replace T := T.1 c
                refine ow_iinc 5 (v := (v5 + 1)) (ls2 := [(5, .int (v5 + 1)), (6, .int 1), (0, .ref 39), (2, .int v2), (3, .int v3), (4, .int v4)]) d_Serving_fewestKept_117 rfl rfl (by decide) rfl ?_
                refine ow_goto (tgt := 25) d_Serving_fewestKept_120 (by decide) ?_
                refine ow_sub [2, 3, 4, 5, 0] rfl ?_
                exact T
              · replace T := T.2 c
                refine ow_iload 5 rfl d_Serving_fewestKept_113 ?_
                refine ow_istore (ls2 := [(4, .int v5), (6, .int 1), (0, .ref 39), (2, .int v2), (3, .int v3), (5, .int v5)]) d_Serving_fewestKept_115 (by decide) rfl ?_
                refine ow_iinc 5 (v := (v5 + 1)) (ls2 := [(5, .int (v5 + 1)), (4, .int v5), (6, .int 1), (0, .ref 39), (2, .int v2), (3, .int v3)]) d_Serving_fewestKept_117 rfl rfl (by decide) rfl ?_
                refine ow_goto (tgt := 25) d_Serving_fewestKept_120 (by decide) ?_
                refine ow_sub [3, 4, 5, 1, 0] rfl ?_
                exact T
            · exact absurd c (by decide)
set_option maxRecDepth 4000 in
theorem t_Serving_fewestKept {d : Nat} {I : Nat → Nat → Int32} {J : Nat → Nat → Int64} {R : Nat → Nat → Option Nat} {Q : Option Value → ow_H → Prop} {o : Nat} (ho : o ∈ [3, 15, 29, 33, 42, 47, 57]) (hR : ow_RF R) (T : (ow_AM M_Serving_bitsServed d [.ref 39, .ref o] (85, I, J, R) (fun r h' => ∃ (r12 : Int32) (I12 : Nat → Nat → Int32) (J12 : Nat → Nat → Int64) (R12 : Nat → Nat → Option Nat), r = some (.int r12) ∧ h' = (85, I12, J12, R12) ∧ ow_RF R12 ∧ (ow_AM M_Scene_bitsSound d [.ref o] (85, I12, J12, R12) (fun r h' => ∃ (r13 : Int32) (I13 : Nat → Nat → Int32) (J13 : Nat → Nat → Int64) (R13 : Nat → Nat → Option Nat), r = some (.int r13) ∧ h' = (85, I13, J13, R13) ∧ ow_RF R13 ∧ (ow_AM M_Scene_take d [.ref 42, .ref o] (85, I13, J13, R13) (fun r h' => ∃ (I14 : Nat → Nat → Int32) (J14 : Nat → Nat → Int64) (R14 : Nat → Nat → Option Nat), r = none ∧ h' = (85, I14, J14, R14) ∧ ow_RF R14 ∧ ow_AW ow_Y0 (ow_Z Q) M_Serving_fewestKept (d + 1) 0 0 25 [(0, .ref 39), (2, .int r12), (3, .int r13), (4, .int r13), (5, .int 0)] [] (85, I14, J14, R14) 0 0))))))) : ow_AM M_Serving_fewestKept (d + 1) [.ref 39, .ref o] (85, I, J, R) Q := by
  refine ow_enter (by decide) (Nat.le_of_ble_eq_true rfl) ?_
  show ow_AW ow_Y0 (ow_Z Q) M_Serving_fewestKept (d + 1) 0 0 0 [(0, .ref 39), (1, .ref o)] [] (85, I, J, R) 0 0
  obtain ⟨o_lt, o_kd, o_r3, o_r4, o_r5, o_k1, o_k2, o_k3, o_n1, o_n2, o_n3⟩ := ow_sc_ok o ho
  refine ow_aload_n 0 rfl d_Serving_fewestKept_0 ?_
  refine ow_aload_n 1 rfl d_Serving_fewestKept_1 ?_
  refine ow_callV (b := 39) (cq := 5) (As := [.ref o]) (rest := []) (d2 := d) d_Serving_fewestKept_2 l_Serving_37 v_Serving_bitsServed (show 39 < 85 by decide) rfl (by decide) rfl (Nat.le_of_ble_eq_true rfl) (Nat.le_refl _) ⟨Nat.le_refl _, Nat.le_refl _⟩ (ow_mono T ?_)
  rintro r h' ⟨r12, I12, J12, R12, rfl, rfl, hR12, T⟩
  show ow_AW ow_Y0 (ow_Z Q) M_Serving_fewestKept (d + 1) 0 0 5 [(0, .ref 39), (1, .ref o)] [.int r12] (85, I12, J12, R12) 0 0
  refine ow_istore_n (ls2 := [(2, .int r12), (0, .ref 39), (1, .ref o)]) d_Serving_fewestKept_5 (by decide) rfl ?_
  refine ow_aload_n 2 rfl d_Serving_fewestKept_6 ?_
  refine ow_callV (b := o) (cq := 4) (As := []) (rest := []) (d2 := d) d_Serving_fewestKept_7 l_Serving_84 v_Scene_bitsSound (show o < 85 by omega) o_kd (by decide) rfl (Nat.le_of_ble_eq_true rfl) (Nat.le_refl _) ⟨Nat.le_refl _, Nat.le_refl _⟩ (ow_mono T ?_)
  rintro r h' ⟨r13, I13, J13, R13, rfl, rfl, hR13, T⟩
  show ow_AW ow_Y0 (ow_Z Q) M_Serving_fewestKept (d + 1) 0 0 10 [(2, .int r12), (0, .ref 39), (1, .ref o)] [.int r13] (85, I13, J13, R13) 0 0
  refine ow_istore_n (ls2 := [(3, .int r13), (2, .int r12), (0, .ref 39), (1, .ref o)]) d_Serving_fewestKept_10 (by decide) rfl ?_
  refine ow_iload_n 0 rfl d_Serving_fewestKept_11 ?_
  refine ow_istore (ls2 := [(4, .int r13), (3, .int r13), (2, .int r12), (0, .ref 39), (1, .ref o)]) d_Serving_fewestKept_12 (by decide) rfl ?_
  refine ow_aload_n 3 rfl d_Serving_fewestKept_14 ?_
  refine ow_gR (a := 42) 105 d_Serving_fewestKept_15 rfl rfl (by decide) rfl ⟨rfl, hR13 39 2 (by decide)⟩ ?_
  refine ow_aload_n 4 rfl d_Serving_fewestKept_18 ?_
  refine ow_callV (b := 42) (cq := 4) (As := [.ref o]) (rest := []) (d2 := d) d_Serving_fewestKept_19 l_Serving_72 v_Scene_take (show 42 < 85 by decide) rfl (by decide) rfl (Nat.le_of_ble_eq_true rfl) (Nat.le_refl _) ⟨Nat.le_refl _, Nat.le_refl _⟩ (ow_mono T ?_)
  rintro r h' ⟨I14, J14, R14, rfl, rfl, hR14, T⟩
  show ow_AW ow_Y0 (ow_Z Q) M_Serving_fewestKept (d + 1) 0 0 22 [(4, .int r13), (3, .int r13), (2, .int r12), (0, .ref 39), (1, .ref o)] [] (85, I14, J14, R14) 0 0
  refine ow_iconst (v := 0) (by decide) d_Serving_fewestKept_22 ?_
  refine ow_istore (ls2 := [(5, .int 0), (4, .int r13), (3, .int r13), (2, .int r12), (0, .ref 39), (1, .ref o)]) d_Serving_fewestKept_23 (by decide) rfl ?_
  refine ow_sub [4, 3, 2, 1, 0] rfl ?_
  exact T
set_option maxRecDepth 4000 in
theorem t_Serving_mostNeeded_16 {d : Nat} {I : Nat → Nat → Int32} {J : Nat → Nat → Int64} {R : Nat → Nat → Option Nat} {Q : Option Value → ow_H → Prop} {o : Nat} {v2 : Int32} {v3 : Int32} {v4 : Int32} (ho : o ∈ [3, 15, 29, 33, 42, 47, 57]) (hR : ow_RF R) (T : (((I o 0) ≤ v4 → Q (some (.int v2)) (85, I, J, R)) ∧ (¬ (I o 0) ≤ v4 → (vp_in v4 6 ∧ (∀ (I2 : Nat → Nat → Int32), I2 = ow_u I 44 (v4.toNatClampNeg) 0 → (ow_AM M_Serving_countServed d [.ref 39, .ref 42] (85, I2, J, R) (fun r h' => ∃ (r3 : Int32) (I3 : Nat → Nat → Int32) (J3 : Nat → Nat → Int64) (R3 : Nat → Nat → Option Nat), r = some (.int r3) ∧ h' = (85, I3, J3, R3) ∧ ow_RF R3 ∧ ((v3 ≤ r3 → (vp_in v4 6 ∧ (vp_in v4 6 ∧ (∀ (I4 : Nat → Nat → Int32), I4 = ow_u I3 44 (v4.toNatClampNeg) (I3 (o + 2) v4.toNatClampNeg) → ow_AW ow_Y0 (ow_Z Q) M_Serving_mostNeeded (d + 1) 0 0 16 [(0, .ref 39), (1, .ref o), (2, .int v2), (3, .int v3), (4, .int (v4 + 1))] [] (85, I4, J3, R3) 0 0)))) ∧ (¬ v3 ≤ r3 → (vp_in v4 6 ∧ (vp_in v4 6 ∧ (∀ (I5 : Nat → Nat → Int32), I5 = ow_u I3 44 (v4.toNatClampNeg) (I3 (o + 2) v4.toNatClampNeg) → ow_AW ow_Y0 (ow_Z Q) M_Serving_mostNeeded (d + 1) 0 0 16 [(0, .ref 39), (1, .ref o), (2, .int v4), (3, .int r3), (4, .int (v4 + 1))] [] (85, I5, J3, R3) 0 0)))))))))))) : ow_AW ow_Y0 (ow_Z Q) M_Serving_mostNeeded (d + 1) 0 0 16 [(0, .ref 39), (1, .ref o), (2, .int v2), (3, .int v3), (4, .int v4)] [] (85, I, J, R) 0 0 := by
  obtain ⟨o_lt, o_kd, o_r3, o_r4, o_r5, o_k1, o_k2, o_k3, o_n1, o_n2, o_n3⟩ := ow_sc_ok o ho
  refine ow_iload 4 rfl d_Serving_mostNeeded_16 ?_
  refine ow_aload_n 1 rfl d_Serving_mostNeeded_18 ?_
  refine ow_gI 1 d_Serving_mostNeeded_19 rfl rfl (by omega) o_kd (Or.inl rfl) ?_
  refine ow_icmp_ge (tgt := 81) d_Serving_mostNeeded_22 (by decide) (fun c => ?_) (fun c => ?_)
  · replace T := T.1 c
    refine ow_iload_n 2 rfl d_Serving_mostNeeded_81 ?_
    exact ow_iret d_Serving_mostNeeded_82 rfl T
  · replace T := T.2 c
    refine ow_aload_n 0 rfl d_Serving_mostNeeded_25 ?_
    refine ow_gR (a := 42) 105 d_Serving_mostNeeded_26 rfl rfl (by decide) rfl ⟨rfl, hR 39 2 (by decide)⟩ ?_
    refine ow_gR (a := 44) 20 d_Serving_mostNeeded_29 rfl rfl (by decide) rfl ⟨rfl, hR 42 4 (by decide)⟩ ?_
    refine ow_iload 4 rfl d_Serving_mostNeeded_32 ?_
    refine ow_iconst (v := 0) (by decide) d_Serving_mostNeeded_34 ?_
    obtain ⟨cI, T⟩ := T
    refine ow_hiastore d_Serving_mostNeeded_35 (by decide) rfl rfl cI ?_
    obtain ⟨I2, eI2⟩ : ∃ uu, uu = ow_u I 44 (v4.toNatClampNeg) 0 := ⟨_, rfl⟩
    replace T := T I2 eI2
    rw [← eI2]
    refine ow_aload_n 0 rfl d_Serving_mostNeeded_36 ?_
    refine ow_aload_n 0 rfl d_Serving_mostNeeded_37 ?_
    refine ow_gR (a := 42) 105 d_Serving_mostNeeded_38 rfl rfl (by decide) rfl ⟨rfl, hR 39 2 (by decide)⟩ ?_
    refine ow_callV (b := 39) (cq := 5) (As := [.ref 42]) (rest := []) (d2 := d) d_Serving_mostNeeded_41 l_Serving_69 v_Serving_countServed (show 39 < 85 by decide) rfl (by decide) rfl (Nat.le_of_ble_eq_true rfl) (Nat.le_refl _) ⟨Nat.le_refl _, Nat.le_refl _⟩ (ow_mono T ?_)
    rintro r h' ⟨r3, I3, J3, R3, rfl, rfl, hR3, T⟩
    show ow_AW ow_Y0 (ow_Z Q) M_Serving_mostNeeded (d + 1) 0 0 44 [(0, .ref 39), (1, .ref o), (2, .int v2), (3, .int v3), (4, .int v4)] [.int r3] (85, I3, J3, R3) 0 0
    refine ow_istore (ls2 := [(5, .int r3), (0, .ref 39), (1, .ref o), (2, .int v2), (3, .int v3), (4, .int v4)]) d_Serving_mostNeeded_44 (by decide) rfl ?_
    refine ow_iload 0 rfl d_Serving_mostNeeded_46 ?_
    refine ow_iload_n 4 rfl d_Serving_mostNeeded_48 ?_
    refine ow_icmp_ge (tgt := 58) d_Serving_mostNeeded_49 (by decide) (fun c => ?_) (fun c => ?_)
    · replace T := T.1 c
      refine ow_aload_n 1 rfl d_Serving_mostNeeded_58 ?_
      refine ow_gR (a := 42) 105 d_Serving_mostNeeded_59 rfl rfl (by decide) rfl ⟨rfl, hR3 39 2 (by decide)⟩ ?_
      refine ow_gR (a := 44) 20 d_Serving_mostNeeded_62 rfl rfl (by decide) rfl ⟨rfl, hR3 42 4 (by decide)⟩ ?_
      refine ow_iload 5 rfl d_Serving_mostNeeded_65 ?_
      refine ow_aload_n 2 rfl d_Serving_mostNeeded_67 ?_
      refine ow_gR (a := o + 2) 20 d_Serving_mostNeeded_68 rfl rfl (by omega) o_kd ⟨rfl, (hR3 _ _ (fun q => absurd q.2 (by decide))).trans o_r4⟩ ?_
      refine ow_iload 5 rfl d_Serving_mostNeeded_71 ?_
      obtain ⟨cI, T⟩ := T
      refine ow_hiaload d_Serving_mostNeeded_73 (by omega) o_k2 o_n2 cI ?_
      obtain ⟨cI, T⟩ := T
      refine ow_hiastore d_Serving_mostNeeded_74 (by decide) rfl rfl cI ?_
      obtain ⟨I4, eI4⟩ : ∃ uu, uu = ow_u I3 44 (v4.toNatClampNeg) (I3 (o + 2) v4.toNatClampNeg) := ⟨_, rfl⟩
      replace T := T I4 eI4
      rw [← eI4]
      refine ow_iinc 5 (v := (v4 + 1)) (ls2 := [(4, .int (v4 + 1)), (5, .int r3), (0, .ref 39), (1, .ref o), (2, .int v2), (3, .int v3)]) d_Serving_mostNeeded_75 rfl rfl (by decide) rfl ?_
      refine ow_goto (tgt := 16) d_Serving_mostNeeded_78 (by decide) ?_
      refine ow_sub [2, 3, 4, 5, 0] rfl ?_
      exact T
    · replace T := T.2 c
      refine ow_iload 0 rfl d_Serving_mostNeeded_52 ?_
      refine ow_istore_n (ls2 := [(3, .int r3), (5, .int r3), (0, .ref 39), (1, .ref o), (2, .int v2), (4, .int v4)]) d_Serving_mostNeeded_54 (by decide) rfl ?_
      refine ow_iload 5 rfl d_Serving_mostNeeded_55 ?_
      refine ow_istore_n (ls2 := [(2, .int v4), (3, .int r3), (5, .int r3), (0, .ref 39), (1, .ref o), (4, .int v4)]) d_Serving_mostNeeded_57 (by decide) rfl ?_
      refine ow_aload_n 3 rfl d_Serving_mostNeeded_58 ?_
      refine ow_gR (a := 42) 105 d_Serving_mostNeeded_59 rfl rfl (by decide) rfl ⟨rfl, hR3 39 2 (by decide)⟩ ?_
      refine ow_gR (a := 44) 20 d_Serving_mostNeeded_62 rfl rfl (by decide) rfl ⟨rfl, hR3 42 4 (by decide)⟩ ?_
      refine ow_iload 5 rfl d_Serving_mostNeeded_65 ?_
      refine ow_aload_n 4 rfl d_Serving_mostNeeded_67 ?_
      refine ow_gR (a := o + 2) 20 d_Serving_mostNeeded_68 rfl rfl (by omega) o_kd ⟨rfl, (hR3 _ _ (fun q => absurd q.2 (by decide))).trans o_r4⟩ ?_
      refine ow_iload 5 rfl d_Serving_mostNeeded_71 ?_
      obtain ⟨cI, T⟩ := T
      refine ow_hiaload d_Serving_mostNeeded_73 (by omega) o_k2 o_n2 cI ?_
      obtain ⟨cI, T⟩ := T
      refine ow_hiastore d_Serving_mostNeeded_74 (by decide) rfl rfl cI ?_
      obtain ⟨I5, eI5⟩ : ∃ uu, uu = ow_u I3 44 (v4.toNatClampNeg) (I3 (o + 2) v4.toNatClampNeg) := ⟨_, rfl⟩
      replace T := T I5 eI5
      rw [← eI5]
      refine ow_iinc 5 (v := (v4 + 1)) (ls2 := [(4, .int (v4 + 1)), (2, .int v4), (3, .int r3), (5, .int r3), (0, .ref 39), (1, .ref o)]) d_Serving_mostNeeded_75 rfl rfl (by decide) rfl ?_
      refine ow_goto (tgt := 16) d_Serving_mostNeeded_78 (by decide) ?_
      refine ow_sub [4, 5, 1, 2, 0] rfl ?_
      exact T
set_option maxRecDepth 4000 in
theorem t_Serving_mostNeeded {d : Nat} {I : Nat → Nat → Int32} {J : Nat → Nat → Int64} {R : Nat → Nat → Option Nat} {Q : Option Value → ow_H → Prop} {o : Nat} (ho : o ∈ [3, 15, 29, 33, 42, 47, 57]) (hR : ow_RF R) (T : (ow_AM M_Scene_take d [.ref 42, .ref o] (85, I, J, R) (fun r h' => ∃ (I6 : Nat → Nat → Int32) (J6 : Nat → Nat → Int64) (R6 : Nat → Nat → Option Nat), r = none ∧ h' = (85, I6, J6, R6) ∧ ow_RF R6 ∧ ow_AW ow_Y0 (ow_Z Q) M_Serving_mostNeeded (d + 1) 0 0 16 [(0, .ref 39), (1, .ref o), (2, .int 0), (3, .int 6), (4, .int 0)] [] (85, I6, J6, R6) 0 0))) : ow_AM M_Serving_mostNeeded (d + 1) [.ref 39, .ref o] (85, I, J, R) Q := by
  refine ow_enter (by decide) (Nat.le_of_ble_eq_true rfl) ?_
  show ow_AW ow_Y0 (ow_Z Q) M_Serving_mostNeeded (d + 1) 0 0 0 [(0, .ref 39), (1, .ref o)] [] (85, I, J, R) 0 0
  obtain ⟨o_lt, o_kd, o_r3, o_r4, o_r5, o_k1, o_k2, o_k3, o_n1, o_n2, o_n3⟩ := ow_sc_ok o ho
  refine ow_iconst (v := 0) (by decide) d_Serving_mostNeeded_0 ?_
  refine ow_istore_n (ls2 := [(2, .int 0), (0, .ref 39), (1, .ref o)]) d_Serving_mostNeeded_1 (by decide) rfl ?_
  refine ow_bipush (v := 6) (by decide) d_Serving_mostNeeded_2 ?_
  refine ow_istore_n (ls2 := [(3, .int 6), (2, .int 0), (0, .ref 39), (1, .ref o)]) d_Serving_mostNeeded_4 (by decide) rfl ?_
  refine ow_aload_n 2 rfl d_Serving_mostNeeded_5 ?_
  refine ow_gR (a := 42) 105 d_Serving_mostNeeded_6 rfl rfl (by decide) rfl ⟨rfl, hR 39 2 (by decide)⟩ ?_
  refine ow_aload_n 3 rfl d_Serving_mostNeeded_9 ?_
  refine ow_callV (b := 42) (cq := 4) (As := [.ref o]) (rest := []) (d2 := d) d_Serving_mostNeeded_10 l_Serving_72 v_Scene_take (show 42 < 85 by decide) rfl (by decide) rfl (Nat.le_of_ble_eq_true rfl) (Nat.le_refl _) ⟨Nat.le_refl _, Nat.le_refl _⟩ (ow_mono T ?_)
  rintro r h' ⟨I6, J6, R6, rfl, rfl, hR6, T⟩
  show ow_AW ow_Y0 (ow_Z Q) M_Serving_mostNeeded (d + 1) 0 0 13 [(3, .int 6), (2, .int 0), (0, .ref 39), (1, .ref o)] [] (85, I6, J6, R6) 0 0
  refine ow_iconst (v := 0) (by decide) d_Serving_mostNeeded_13 ?_
  refine ow_istore (ls2 := [(4, .int 0), (3, .int 6), (2, .int 0), (0, .ref 39), (1, .ref o)]) d_Serving_mostNeeded_14 (by decide) rfl ?_
  refine ow_sub [3, 4, 2, 1, 0] rfl ?_
  exact T
set_option maxRecDepth 4000 in
theorem t_Serving_bitsServedBy {d : Nat} {I : Nat → Nat → Int32} {J : Nat → Nat → Int64} {R : Nat → Nat → Option Nat} {Q : Option Value → ow_H → Prop} {o : Nat} {p1 : Int32} (ho : o ∈ [3, 15, 29, 33, 42, 47, 57]) (hR : ow_RF R) (T : (((p1 &&& 1) = 0 → (ow_AM M_Course_run d [.ref 40, .ref o, .int (p1 >>> (1 &&& 31)), .int 0] (85, I, J, R) (fun r h' => ∃ (I5 : Nat → Nat → Int32) (J5 : Nat → Nat → Int64) (R5 : Nat → Nat → Option Nat), r = none ∧ h' = (85, I5, J5, R5) ∧ ow_RF R5 ∧ ((¬ (I5 40 4) = 1 → Q (some (.int 0)) (85, I5, J5, R5)) ∧ ((I5 40 4) = 1 → (ow_AM M_Scene_has d [.ref o, .int (I5 40 3)] (85, I5, J5, R5) (fun r h' => ∃ (r6 : Int32) (I6 : Nat → Nat → Int32) (J6 : Nat → Nat → Int64) (R6 : Nat → Nat → Option Nat), r = some (.int r6) ∧ h' = (85, I6, J6, R6) ∧ ow_RF R6 ∧ ((r6 = 0 → Q (some (.int 0)) (85, I6, J6, R6)) ∧ (¬ r6 = 0 → (vp_in (I6 40 3) 6 ∧ Q (some (.int (I6 9 (I6 40 3).toNatClampNeg))) (85, I6, J6, R6))))))))))) ∧ (¬ (p1 &&& 1) = 0 → (ow_AM M_Course_run d [.ref 40, .ref o, .int (p1 >>> (1 &&& 31)), .int 1] (85, I, J, R) (fun r h' => ∃ (I7 : Nat → Nat → Int32) (J7 : Nat → Nat → Int64) (R7 : Nat → Nat → Option Nat), r = none ∧ h' = (85, I7, J7, R7) ∧ ow_RF R7 ∧ ((¬ (I7 40 4) = 1 → Q (some (.int 0)) (85, I7, J7, R7)) ∧ ((I7 40 4) = 1 → (ow_AM M_Scene_has d [.ref o, .int (I7 40 3)] (85, I7, J7, R7) (fun r h' => ∃ (r8 : Int32) (I8 : Nat → Nat → Int32) (J8 : Nat → Nat → Int64) (R8 : Nat → Nat → Option Nat), r = some (.int r8) ∧ h' = (85, I8, J8, R8) ∧ ow_RF R8 ∧ ((r8 = 0 → Q (some (.int 0)) (85, I8, J8, R8)) ∧ (¬ r8 = 0 → (vp_in (I8 40 3) 6 ∧ Q (some (.int (I8 9 (I8 40 3).toNatClampNeg))) (85, I8, J8, R8))))))))))))) : ow_AM M_Serving_bitsServedBy (d + 1) [.ref 39, .ref o, .int p1] (85, I, J, R) Q := by
  refine ow_enter (by decide) (Nat.le_of_ble_eq_true rfl) ?_
  show ow_AW ow_Y0 (ow_Z Q) M_Serving_bitsServedBy (d + 1) 0 0 0 [(0, .ref 39), (1, .ref o), (2, .int p1)] [] (85, I, J, R) 0 0
  obtain ⟨o_lt, o_kd, o_r3, o_r4, o_r5, o_k1, o_k2, o_k3, o_n1, o_n2, o_n3⟩ := ow_sc_ok o ho
  refine ow_aload_n 0 rfl d_Serving_bitsServedBy_0 ?_
  refine ow_gR (a := 40) 104 d_Serving_bitsServedBy_1 rfl rfl (by decide) rfl ⟨rfl, hR 39 1 (by decide)⟩ ?_
  refine ow_aload_n 1 rfl d_Serving_bitsServedBy_4 ?_
  refine ow_iload_n 2 rfl d_Serving_bitsServedBy_5 ?_
  refine ow_iconst (v := 1) (by decide) d_Serving_bitsServedBy_6 ?_
  refine ow_ishr d_Serving_bitsServedBy_7 ?_
  refine ow_iload_n 2 rfl d_Serving_bitsServedBy_8 ?_
  refine ow_iconst (v := 1) (by decide) d_Serving_bitsServedBy_9 ?_
  refine ow_iand d_Serving_bitsServedBy_10 ?_
  refine ow_if_eq (tgt := 18) d_Serving_bitsServedBy_11 (by decide) (fun c => ?_) (fun c => ?_)
  · replace T := T.1 c
    refine ow_iconst (v := 0) (by decide) d_Serving_bitsServedBy_18 ?_
    refine ow_callV (b := 40) (cq := 0) (As := [.ref o, .int (p1 >>> (1 &&& 31)), .int 0]) (rest := []) (d2 := d) d_Serving_bitsServedBy_19 l_Serving_47 v_Course_run (show 40 < 85 by decide) rfl (by decide) rfl (Nat.le_of_ble_eq_true rfl) (Nat.le_refl _) ⟨Nat.le_refl _, Nat.le_refl _⟩ (ow_mono T ?_)
    rintro r h' ⟨I5, J5, R5, rfl, rfl, hR5, T⟩
    show ow_AW ow_Y0 (ow_Z Q) M_Serving_bitsServedBy (d + 1) 0 0 22 [(0, .ref 39), (1, .ref o), (2, .int p1)] [] (85, I5, J5, R5) 0 0
    refine ow_aload_n 0 rfl d_Serving_bitsServedBy_22 ?_
    refine ow_gR (a := 40) 104 d_Serving_bitsServedBy_23 rfl rfl (by decide) rfl ⟨rfl, hR5 39 1 (by decide)⟩ ?_
    refine ow_gI 102 d_Serving_bitsServedBy_26 rfl rfl (by decide) rfl (Or.inl rfl) ?_
    refine ow_iconst (v := 1) (by decide) d_Serving_bitsServedBy_29 ?_
    refine ow_icmp_ne (tgt := 65) d_Serving_bitsServedBy_30 (by decide) (fun c => ?_) (fun c => ?_)
    · replace T := T.1 c
      refine ow_iconst (v := 0) (by decide) d_Serving_bitsServedBy_65 ?_
      exact ow_iret d_Serving_bitsServedBy_66 rfl T
    · replace T := T.2 c
      refine ow_aload_n 1 rfl d_Serving_bitsServedBy_33 ?_
      refine ow_aload_n 0 rfl d_Serving_bitsServedBy_34 ?_
      refine ow_gR (a := 40) 104 d_Serving_bitsServedBy_35 rfl rfl (by decide) rfl ⟨rfl, hR5 39 1 (by decide)⟩ ?_
      refine ow_gI 96 d_Serving_bitsServedBy_38 rfl rfl (by decide) rfl (Or.inl rfl) ?_
      refine ow_callV (b := o) (cq := 4) (As := [.int (I5 40 3)]) (rest := []) (d2 := d) d_Serving_bitsServedBy_41 l_Serving_98 v_Scene_has (show o < 85 by omega) o_kd (by decide) rfl (Nat.le_of_ble_eq_true rfl) (Nat.le_refl _) ⟨Nat.le_refl _, Nat.le_refl _⟩ (ow_mono T ?_)
      rintro r h' ⟨r6, I6, J6, R6, rfl, rfl, hR6, T⟩
      show ow_AW ow_Y0 (ow_Z Q) M_Serving_bitsServedBy (d + 1) 0 0 44 [(0, .ref 39), (1, .ref o), (2, .int p1)] [.int r6] (85, I6, J6, R6) 0 0
      refine ow_if_eq (tgt := 65) d_Serving_bitsServedBy_44 (by decide) (fun c => ?_) (fun c => ?_)
      · replace T := T.1 c
        refine ow_iconst (v := 0) (by decide) d_Serving_bitsServedBy_65 ?_
        exact ow_iret d_Serving_bitsServedBy_66 rfl T
      · replace T := T.2 c
        refine ow_aload_n 0 rfl d_Serving_bitsServedBy_47 ?_
        refine ow_gR (a := 2) 103 d_Serving_bitsServedBy_48 rfl rfl (by decide) rfl ⟨rfl, hR6 39 0 (by decide)⟩ ?_
        refine ow_gR (a := 9) 50 d_Serving_bitsServedBy_51 rfl rfl (by decide) rfl ⟨rfl, hR6 2 6 (by decide)⟩ ?_
        refine ow_aload_n 0 rfl d_Serving_bitsServedBy_54 ?_
        refine ow_gR (a := 40) 104 d_Serving_bitsServedBy_55 rfl rfl (by decide) rfl ⟨rfl, hR6 39 1 (by decide)⟩ ?_
        refine ow_gI 96 d_Serving_bitsServedBy_58 rfl rfl (by decide) rfl (Or.inl rfl) ?_
        obtain ⟨cI, T⟩ := T
        refine ow_hiaload d_Serving_bitsServedBy_61 (by decide) rfl rfl cI ?_
        refine ow_goto (tgt := 66) d_Serving_bitsServedBy_62 (by decide) ?_
        exact ow_iret d_Serving_bitsServedBy_66 rfl T
  · replace T := T.2 c
    refine ow_iconst (v := 1) (by decide) d_Serving_bitsServedBy_14 ?_
    refine ow_goto (tgt := 19) d_Serving_bitsServedBy_15 (by decide) ?_
    refine ow_callV (b := 40) (cq := 0) (As := [.ref o, .int (p1 >>> (1 &&& 31)), .int 1]) (rest := []) (d2 := d) d_Serving_bitsServedBy_19 l_Serving_47 v_Course_run (show 40 < 85 by decide) rfl (by decide) rfl (Nat.le_of_ble_eq_true rfl) (Nat.le_refl _) ⟨Nat.le_refl _, Nat.le_refl _⟩ (ow_mono T ?_)
    rintro r h' ⟨I7, J7, R7, rfl, rfl, hR7, T⟩
    show ow_AW ow_Y0 (ow_Z Q) M_Serving_bitsServedBy (d + 1) 0 0 22 [(0, .ref 39), (1, .ref o), (2, .int p1)] [] (85, I7, J7, R7) 0 0
    refine ow_aload_n 0 rfl d_Serving_bitsServedBy_22 ?_
    refine ow_gR (a := 40) 104 d_Serving_bitsServedBy_23 rfl rfl (by decide) rfl ⟨rfl, hR7 39 1 (by decide)⟩ ?_
    refine ow_gI 102 d_Serving_bitsServedBy_26 rfl rfl (by decide) rfl (Or.inl rfl) ?_
    refine ow_iconst (v := 1) (by decide) d_Serving_bitsServedBy_29 ?_
    refine ow_icmp_ne (tgt := 65) d_Serving_bitsServedBy_30 (by decide) (fun c => ?_) (fun c => ?_)
    · replace T := T.1 c
      refine ow_iconst (v := 0) (by decide) d_Serving_bitsServedBy_65 ?_
      exact ow_iret d_Serving_bitsServedBy_66 rfl T
    · replace T := T.2 c
      refine ow_aload_n 1 rfl d_Serving_bitsServedBy_33 ?_
      refine ow_aload_n 0 rfl d_Serving_bitsServedBy_34 ?_
      refine ow_gR (a := 40) 104 d_Serving_bitsServedBy_35 rfl rfl (by decide) rfl ⟨rfl, hR7 39 1 (by decide)⟩ ?_
      refine ow_gI 96 d_Serving_bitsServedBy_38 rfl rfl (by decide) rfl (Or.inl rfl) ?_
      refine ow_callV (b := o) (cq := 4) (As := [.int (I7 40 3)]) (rest := []) (d2 := d) d_Serving_bitsServedBy_41 l_Serving_98 v_Scene_has (show o < 85 by omega) o_kd (by decide) rfl (Nat.le_of_ble_eq_true rfl) (Nat.le_refl _) ⟨Nat.le_refl _, Nat.le_refl _⟩ (ow_mono T ?_)
      rintro r h' ⟨r8, I8, J8, R8, rfl, rfl, hR8, T⟩
      show ow_AW ow_Y0 (ow_Z Q) M_Serving_bitsServedBy (d + 1) 0 0 44 [(0, .ref 39), (1, .ref o), (2, .int p1)] [.int r8] (85, I8, J8, R8) 0 0
      refine ow_if_eq (tgt := 65) d_Serving_bitsServedBy_44 (by decide) (fun c => ?_) (fun c => ?_)
      · replace T := T.1 c
        refine ow_iconst (v := 0) (by decide) d_Serving_bitsServedBy_65 ?_
        exact ow_iret d_Serving_bitsServedBy_66 rfl T
      · replace T := T.2 c
        refine ow_aload_n 0 rfl d_Serving_bitsServedBy_47 ?_
        refine ow_gR (a := 2) 103 d_Serving_bitsServedBy_48 rfl rfl (by decide) rfl ⟨rfl, hR8 39 0 (by decide)⟩ ?_
        refine ow_gR (a := 9) 50 d_Serving_bitsServedBy_51 rfl rfl (by decide) rfl ⟨rfl, hR8 2 6 (by decide)⟩ ?_
        refine ow_aload_n 0 rfl d_Serving_bitsServedBy_54 ?_
        refine ow_gR (a := 40) 104 d_Serving_bitsServedBy_55 rfl rfl (by decide) rfl ⟨rfl, hR8 39 1 (by decide)⟩ ?_
        refine ow_gI 96 d_Serving_bitsServedBy_58 rfl rfl (by decide) rfl (Or.inl rfl) ?_
        obtain ⟨cI, T⟩ := T
        refine ow_hiaload d_Serving_bitsServedBy_61 (by decide) rfl rfl cI ?_
        refine ow_goto (tgt := 66) d_Serving_bitsServedBy_62 (by decide) ?_
        exact ow_iret d_Serving_bitsServedBy_66 rfl T
