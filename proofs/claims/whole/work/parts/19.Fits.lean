/-! Own rows, by program: Fits_gather Fits_shapeBy Fits_countShaped Fits_findTry Fits_firstUntrue Fits_firstUntrueOf Fits_mostLeftBy Fits_wear -/
theorem d_Fits_gather_0 : decode M_Fits_gather.2.1 0 = .ok (.aload_n 0, 1) := by decide +kernel
theorem d_Fits_gather_1 : decode M_Fits_gather.2.1 1 = .ok (.iconst 0, 1) := by decide +kernel
theorem d_Fits_gather_2 : decode M_Fits_gather.2.1 2 = .ok (.putfield 33, 3) := by decide +kernel
theorem d_Fits_gather_5 : decode M_Fits_gather.2.1 5 = .ok (.iconst 1, 1) := by decide +kernel
theorem d_Fits_gather_6 : decode M_Fits_gather.2.1 6 = .ok (.istore_n 1, 1) := by decide +kernel
theorem d_Fits_gather_7 : decode M_Fits_gather.2.1 7 = .ok (.iconst 0, 1) := by decide +kernel
theorem d_Fits_gather_8 : decode M_Fits_gather.2.1 8 = .ok (.istore_n 2, 1) := by decide +kernel
theorem d_Fits_gather_9 : decode M_Fits_gather.2.1 9 = .ok (.iload_n 2, 1) := by decide +kernel
theorem d_Fits_gather_10 : decode M_Fits_gather.2.1 10 = .ok (.aload_n 0, 1) := by decide +kernel
theorem d_Fits_gather_11 : decode M_Fits_gather.2.1 11 = .ok (.getfield 29, 3) := by decide +kernel
theorem d_Fits_gather_14 : decode M_Fits_gather.2.1 14 = .ok (.getfield 37, 3) := by decide +kernel
theorem d_Fits_gather_17 : decode M_Fits_gather.2.1 17 = .ok (.if_icmp .ge 13, 3) := by decide +kernel
theorem d_Fits_gather_20 : decode M_Fits_gather.2.1 20 = .ok (.iload_n 1, 1) := by decide +kernel
theorem d_Fits_gather_21 : decode M_Fits_gather.2.1 21 = .ok (.iconst 5, 1) := by decide +kernel
theorem d_Fits_gather_22 : decode M_Fits_gather.2.1 22 = .ok (.imul, 1) := by decide +kernel
theorem d_Fits_gather_23 : decode M_Fits_gather.2.1 23 = .ok (.istore_n 1, 1) := by decide +kernel
theorem d_Fits_gather_24 : decode M_Fits_gather.2.1 24 = .ok (.iinc 2 1, 3) := by decide +kernel
theorem d_Fits_gather_27 : decode M_Fits_gather.2.1 27 = .ok (.goto (-18), 3) := by decide +kernel
theorem d_Fits_gather_30 : decode M_Fits_gather.2.1 30 = .ok (.aload_n 0, 1) := by decide +kernel
theorem d_Fits_gather_31 : decode M_Fits_gather.2.1 31 = .ok (.getfield 21, 3) := by decide +kernel
theorem d_Fits_gather_34 : decode M_Fits_gather.2.1 34 = .ok (.aload_n 0, 1) := by decide +kernel
theorem d_Fits_gather_35 : decode M_Fits_gather.2.1 35 = .ok (.getfield 29, 3) := by decide +kernel
theorem d_Fits_gather_38 : decode M_Fits_gather.2.1 38 = .ok (.getfield 42, 3) := by decide +kernel
theorem d_Fits_gather_41 : decode M_Fits_gather.2.1 41 = .ok (.invokevirtual 45, 3) := by decide +kernel
theorem d_Fits_gather_44 : decode M_Fits_gather.2.1 44 = .ok (.iconst 0, 1) := by decide +kernel
theorem d_Fits_gather_45 : decode M_Fits_gather.2.1 45 = .ok (.istore_n 2, 1) := by decide +kernel
theorem d_Fits_gather_46 : decode M_Fits_gather.2.1 46 = .ok (.iload_n 2, 1) := by decide +kernel
theorem d_Fits_gather_47 : decode M_Fits_gather.2.1 47 = .ok (.iload_n 1, 1) := by decide +kernel
theorem d_Fits_gather_48 : decode M_Fits_gather.2.1 48 = .ok (.if_icmp .ge 56, 3) := by decide +kernel
theorem d_Fits_gather_51 : decode M_Fits_gather.2.1 51 = .ok (.aload_n 0, 1) := by decide +kernel
theorem d_Fits_gather_52 : decode M_Fits_gather.2.1 52 = .ok (.getfield 33, 3) := by decide +kernel
theorem d_Fits_gather_55 : decode M_Fits_gather.2.1 55 = .ok (.bipush 125, 2) := by decide +kernel
theorem d_Fits_gather_57 : decode M_Fits_gather.2.1 57 = .ok (.if_icmp .ge 47, 3) := by decide +kernel
theorem d_Fits_gather_60 : decode M_Fits_gather.2.1 60 = .ok (.aload_n 0, 1) := by decide +kernel
theorem d_Fits_gather_61 : decode M_Fits_gather.2.1 61 = .ok (.iload_n 2, 1) := by decide +kernel
theorem d_Fits_gather_62 : decode M_Fits_gather.2.1 62 = .ok (.invokevirtual 49, 3) := by decide +kernel
theorem d_Fits_gather_65 : decode M_Fits_gather.2.1 65 = .ok (.aload_n 0, 1) := by decide +kernel
theorem d_Fits_gather_66 : decode M_Fits_gather.2.1 66 = .ok (.aload_n 0, 1) := by decide +kernel
theorem d_Fits_gather_67 : decode M_Fits_gather.2.1 67 = .ok (.getfield 21, 3) := by decide +kernel
theorem d_Fits_gather_70 : decode M_Fits_gather.2.1 70 = .ok (.invokevirtual 53, 3) := by decide +kernel
theorem d_Fits_gather_73 : decode M_Fits_gather.2.1 73 = .ok (.bipush (-2), 2) := by decide +kernel
theorem d_Fits_gather_75 : decode M_Fits_gather.2.1 75 = .ok (.if_icmp .ne 23, 3) := by decide +kernel
theorem d_Fits_gather_78 : decode M_Fits_gather.2.1 78 = .ok (.aload_n 0, 1) := by decide +kernel
theorem d_Fits_gather_79 : decode M_Fits_gather.2.1 79 = .ok (.getfield 25, 3) := by decide +kernel
theorem d_Fits_gather_82 : decode M_Fits_gather.2.1 82 = .ok (.aload_n 0, 1) := by decide +kernel
theorem d_Fits_gather_83 : decode M_Fits_gather.2.1 83 = .ok (.getfield 33, 3) := by decide +kernel
theorem d_Fits_gather_86 : decode M_Fits_gather.2.1 86 = .ok (.iload_n 2, 1) := by decide +kernel
theorem d_Fits_gather_87 : decode M_Fits_gather.2.1 87 = .ok (.iastore, 1) := by decide +kernel
theorem d_Fits_gather_88 : decode M_Fits_gather.2.1 88 = .ok (.aload_n 0, 1) := by decide +kernel
theorem d_Fits_gather_89 : decode M_Fits_gather.2.1 89 = .ok (.dup, 1) := by decide +kernel
theorem d_Fits_gather_90 : decode M_Fits_gather.2.1 90 = .ok (.getfield 33, 3) := by decide +kernel
theorem d_Fits_gather_93 : decode M_Fits_gather.2.1 93 = .ok (.iconst 1, 1) := by decide +kernel
theorem d_Fits_gather_94 : decode M_Fits_gather.2.1 94 = .ok (.iadd, 1) := by decide +kernel
theorem d_Fits_gather_95 : decode M_Fits_gather.2.1 95 = .ok (.putfield 33, 3) := by decide +kernel
theorem d_Fits_gather_98 : decode M_Fits_gather.2.1 98 = .ok (.iinc 2 1, 3) := by decide +kernel
theorem d_Fits_gather_101 : decode M_Fits_gather.2.1 101 = .ok (.goto (-55), 3) := by decide +kernel
theorem d_Fits_gather_104 : decode M_Fits_gather.2.1 104 = .ok (.return_, 1) := by decide +kernel
theorem d_Fits_shapeBy_0 : decode M_Fits_shapeBy.2.1 0 = .ok (.iload_n 1, 1) := by decide +kernel
theorem d_Fits_shapeBy_1 : decode M_Fits_shapeBy.2.1 1 = .ok (.istore_n 3, 1) := by decide +kernel
theorem d_Fits_shapeBy_2 : decode M_Fits_shapeBy.2.1 2 = .ok (.iload_n 2, 1) := by decide +kernel
theorem d_Fits_shapeBy_3 : decode M_Fits_shapeBy.2.1 3 = .ok (.iconst 1, 1) := by decide +kernel
theorem d_Fits_shapeBy_4 : decode M_Fits_shapeBy.2.1 4 = .ok (.iadd, 1) := by decide +kernel
theorem d_Fits_shapeBy_5 : decode M_Fits_shapeBy.2.1 5 = .ok (.istore 4, 2) := by decide +kernel
theorem d_Fits_shapeBy_7 : decode M_Fits_shapeBy.2.1 7 = .ok (.iload 4, 2) := by decide +kernel
theorem d_Fits_shapeBy_9 : decode M_Fits_shapeBy.2.1 9 = .ok (.aload_n 0, 1) := by decide +kernel
theorem d_Fits_shapeBy_10 : decode M_Fits_shapeBy.2.1 10 = .ok (.getfield 29, 3) := by decide +kernel
theorem d_Fits_shapeBy_13 : decode M_Fits_shapeBy.2.1 13 = .ok (.getfield 37, 3) := by decide +kernel
theorem d_Fits_shapeBy_16 : decode M_Fits_shapeBy.2.1 16 = .ok (.if_icmp .ge 13, 3) := by decide +kernel
theorem d_Fits_shapeBy_19 : decode M_Fits_shapeBy.2.1 19 = .ok (.iload_n 3, 1) := by decide +kernel
theorem d_Fits_shapeBy_20 : decode M_Fits_shapeBy.2.1 20 = .ok (.iconst 5, 1) := by decide +kernel
theorem d_Fits_shapeBy_21 : decode M_Fits_shapeBy.2.1 21 = .ok (.idiv, 1) := by decide +kernel
theorem d_Fits_shapeBy_22 : decode M_Fits_shapeBy.2.1 22 = .ok (.istore_n 3, 1) := by decide +kernel
theorem d_Fits_shapeBy_23 : decode M_Fits_shapeBy.2.1 23 = .ok (.iinc 4 1, 3) := by decide +kernel
theorem d_Fits_shapeBy_26 : decode M_Fits_shapeBy.2.1 26 = .ok (.goto (-19), 3) := by decide +kernel
theorem d_Fits_shapeBy_29 : decode M_Fits_shapeBy.2.1 29 = .ok (.iload_n 3, 1) := by decide +kernel
theorem d_Fits_shapeBy_30 : decode M_Fits_shapeBy.2.1 30 = .ok (.iconst 5, 1) := by decide +kernel
theorem d_Fits_shapeBy_31 : decode M_Fits_shapeBy.2.1 31 = .ok (.irem, 1) := by decide +kernel
theorem d_Fits_shapeBy_32 : decode M_Fits_shapeBy.2.1 32 = .ok (.ireturn, 1) := by decide +kernel
theorem d_Fits_countShaped_0 : decode M_Fits_countShaped.2.1 0 = .ok (.iconst 0, 1) := by decide +kernel
theorem d_Fits_countShaped_1 : decode M_Fits_countShaped.2.1 1 = .ok (.istore_n 3, 1) := by decide +kernel
theorem d_Fits_countShaped_2 : decode M_Fits_countShaped.2.1 2 = .ok (.iconst 0, 1) := by decide +kernel
theorem d_Fits_countShaped_3 : decode M_Fits_countShaped.2.1 3 = .ok (.istore 4, 2) := by decide +kernel
theorem d_Fits_countShaped_5 : decode M_Fits_countShaped.2.1 5 = .ok (.iload 4, 2) := by decide +kernel
theorem d_Fits_countShaped_7 : decode M_Fits_countShaped.2.1 7 = .ok (.aload_n 0, 1) := by decide +kernel
theorem d_Fits_countShaped_8 : decode M_Fits_countShaped.2.1 8 = .ok (.getfield 33, 3) := by decide +kernel
theorem d_Fits_countShaped_11 : decode M_Fits_countShaped.2.1 11 = .ok (.if_icmp .ge 28, 3) := by decide +kernel
theorem d_Fits_countShaped_14 : decode M_Fits_countShaped.2.1 14 = .ok (.aload_n 0, 1) := by decide +kernel
theorem d_Fits_countShaped_15 : decode M_Fits_countShaped.2.1 15 = .ok (.aload_n 0, 1) := by decide +kernel
theorem d_Fits_countShaped_16 : decode M_Fits_countShaped.2.1 16 = .ok (.getfield 25, 3) := by decide +kernel
theorem d_Fits_countShaped_19 : decode M_Fits_countShaped.2.1 19 = .ok (.iload 4, 2) := by decide +kernel
theorem d_Fits_countShaped_21 : decode M_Fits_countShaped.2.1 21 = .ok (.iaload, 1) := by decide +kernel
theorem d_Fits_countShaped_22 : decode M_Fits_countShaped.2.1 22 = .ok (.iload_n 1, 1) := by decide +kernel
theorem d_Fits_countShaped_23 : decode M_Fits_countShaped.2.1 23 = .ok (.invokevirtual 57, 3) := by decide +kernel
theorem d_Fits_countShaped_26 : decode M_Fits_countShaped.2.1 26 = .ok (.iload_n 2, 1) := by decide +kernel
theorem d_Fits_countShaped_27 : decode M_Fits_countShaped.2.1 27 = .ok (.if_icmp .ne 6, 3) := by decide +kernel
theorem d_Fits_countShaped_30 : decode M_Fits_countShaped.2.1 30 = .ok (.iinc 3 1, 3) := by decide +kernel
theorem d_Fits_countShaped_33 : decode M_Fits_countShaped.2.1 33 = .ok (.iinc 4 1, 3) := by decide +kernel
theorem d_Fits_countShaped_36 : decode M_Fits_countShaped.2.1 36 = .ok (.goto (-31), 3) := by decide +kernel
theorem d_Fits_countShaped_39 : decode M_Fits_countShaped.2.1 39 = .ok (.iload_n 3, 1) := by decide +kernel
theorem d_Fits_countShaped_40 : decode M_Fits_countShaped.2.1 40 = .ok (.ireturn, 1) := by decide +kernel
theorem d_Fits_findTry_0 : decode M_Fits_findTry.2.1 0 = .ok (.aload_n 0, 1) := by decide +kernel
theorem d_Fits_findTry_1 : decode M_Fits_findTry.2.1 1 = .ok (.bipush (-2), 2) := by decide +kernel
theorem d_Fits_findTry_3 : decode M_Fits_findTry.2.1 3 = .ok (.putfield 61, 3) := by decide +kernel
theorem d_Fits_findTry_6 : decode M_Fits_findTry.2.1 6 = .ok (.aload_n 0, 1) := by decide +kernel
theorem d_Fits_findTry_7 : decode M_Fits_findTry.2.1 7 = .ok (.bipush (-2), 2) := by decide +kernel
theorem d_Fits_findTry_9 : decode M_Fits_findTry.2.1 9 = .ok (.putfield 64, 3) := by decide +kernel
theorem d_Fits_findTry_12 : decode M_Fits_findTry.2.1 12 = .ok (.aload_n 0, 1) := by decide +kernel
theorem d_Fits_findTry_13 : decode M_Fits_findTry.2.1 13 = .ok (.getfield 33, 3) := by decide +kernel
theorem d_Fits_findTry_16 : decode M_Fits_findTry.2.1 16 = .ok (.ifCond .ne 4, 3) := by decide +kernel
theorem d_Fits_findTry_19 : decode M_Fits_findTry.2.1 19 = .ok (.return_, 1) := by decide +kernel
theorem d_Fits_findTry_20 : decode M_Fits_findTry.2.1 20 = .ok (.aload_n 0, 1) := by decide +kernel
theorem d_Fits_findTry_21 : decode M_Fits_findTry.2.1 21 = .ok (.getfield 21, 3) := by decide +kernel
theorem d_Fits_findTry_24 : decode M_Fits_findTry.2.1 24 = .ok (.aload_n 0, 1) := by decide +kernel
theorem d_Fits_findTry_25 : decode M_Fits_findTry.2.1 25 = .ok (.getfield 29, 3) := by decide +kernel
theorem d_Fits_findTry_28 : decode M_Fits_findTry.2.1 28 = .ok (.getfield 42, 3) := by decide +kernel
theorem d_Fits_findTry_31 : decode M_Fits_findTry.2.1 31 = .ok (.invokevirtual 45, 3) := by decide +kernel
theorem d_Fits_findTry_34 : decode M_Fits_findTry.2.1 34 = .ok (.iconst 0, 1) := by decide +kernel
theorem d_Fits_findTry_35 : decode M_Fits_findTry.2.1 35 = .ok (.istore_n 1, 1) := by decide +kernel
theorem d_Fits_findTry_36 : decode M_Fits_findTry.2.1 36 = .ok (.iload_n 1, 1) := by decide +kernel
theorem d_Fits_findTry_37 : decode M_Fits_findTry.2.1 37 = .ok (.iconst 2, 1) := by decide +kernel
theorem d_Fits_findTry_38 : decode M_Fits_findTry.2.1 38 = .ok (.aload_n 0, 1) := by decide +kernel
theorem d_Fits_findTry_39 : decode M_Fits_findTry.2.1 39 = .ok (.getfield 29, 3) := by decide +kernel
theorem d_Fits_findTry_42 : decode M_Fits_findTry.2.1 42 = .ok (.getfield 42, 3) := by decide +kernel
theorem d_Fits_findTry_45 : decode M_Fits_findTry.2.1 45 = .ok (.getfield 67, 3) := by decide +kernel
theorem d_Fits_findTry_48 : decode M_Fits_findTry.2.1 48 = .ok (.imul, 1) := by decide +kernel
theorem d_Fits_findTry_49 : decode M_Fits_findTry.2.1 49 = .ok (.if_icmp .ge 42, 3) := by decide +kernel
theorem d_Fits_findTry_52 : decode M_Fits_findTry.2.1 52 = .ok (.aload_n 0, 1) := by decide +kernel
theorem d_Fits_findTry_53 : decode M_Fits_findTry.2.1 53 = .ok (.iload_n 1, 1) := by decide +kernel
theorem d_Fits_findTry_54 : decode M_Fits_findTry.2.1 54 = .ok (.invokevirtual 68, 3) := by decide +kernel
theorem d_Fits_findTry_57 : decode M_Fits_findTry.2.1 57 = .ok (.istore_n 2, 1) := by decide +kernel
theorem d_Fits_findTry_58 : decode M_Fits_findTry.2.1 58 = .ok (.aload_n 0, 1) := by decide +kernel
theorem d_Fits_findTry_59 : decode M_Fits_findTry.2.1 59 = .ok (.getfield 61, 3) := by decide +kernel
theorem d_Fits_findTry_62 : decode M_Fits_findTry.2.1 62 = .ok (.bipush (-2), 2) := by decide +kernel
theorem d_Fits_findTry_64 : decode M_Fits_findTry.2.1 64 = .ok (.if_icmp .eq 11, 3) := by decide +kernel
theorem d_Fits_findTry_67 : decode M_Fits_findTry.2.1 67 = .ok (.iload_n 2, 1) := by decide +kernel
theorem d_Fits_findTry_68 : decode M_Fits_findTry.2.1 68 = .ok (.aload_n 0, 1) := by decide +kernel
theorem d_Fits_findTry_69 : decode M_Fits_findTry.2.1 69 = .ok (.getfield 64, 3) := by decide +kernel
theorem d_Fits_findTry_72 : decode M_Fits_findTry.2.1 72 = .ok (.if_icmp .ge 13, 3) := by decide +kernel
theorem d_Fits_findTry_75 : decode M_Fits_findTry.2.1 75 = .ok (.aload_n 0, 1) := by decide +kernel
theorem d_Fits_findTry_76 : decode M_Fits_findTry.2.1 76 = .ok (.iload_n 1, 1) := by decide +kernel
theorem d_Fits_findTry_77 : decode M_Fits_findTry.2.1 77 = .ok (.putfield 61, 3) := by decide +kernel
theorem d_Fits_findTry_80 : decode M_Fits_findTry.2.1 80 = .ok (.aload_n 0, 1) := by decide +kernel
theorem d_Fits_findTry_81 : decode M_Fits_findTry.2.1 81 = .ok (.iload_n 2, 1) := by decide +kernel
theorem d_Fits_findTry_82 : decode M_Fits_findTry.2.1 82 = .ok (.putfield 64, 3) := by decide +kernel
theorem d_Fits_findTry_85 : decode M_Fits_findTry.2.1 85 = .ok (.iinc 1 1, 3) := by decide +kernel
theorem d_Fits_findTry_88 : decode M_Fits_findTry.2.1 88 = .ok (.goto (-52), 3) := by decide +kernel
theorem d_Fits_findTry_91 : decode M_Fits_findTry.2.1 91 = .ok (.return_, 1) := by decide +kernel
theorem d_Fits_firstUntrue_0 : decode M_Fits_firstUntrue.2.1 0 = .ok (.aload_n 0, 1) := by decide +kernel
theorem d_Fits_firstUntrue_1 : decode M_Fits_firstUntrue.2.1 1 = .ok (.aload_n 0, 1) := by decide +kernel
theorem d_Fits_firstUntrue_2 : decode M_Fits_firstUntrue.2.1 2 = .ok (.getfield 29, 3) := by decide +kernel
theorem d_Fits_firstUntrue_5 : decode M_Fits_firstUntrue.2.1 5 = .ok (.getfield 42, 3) := by decide +kernel
theorem d_Fits_firstUntrue_8 : decode M_Fits_firstUntrue.2.1 8 = .ok (.invokevirtual 53, 3) := by decide +kernel
theorem d_Fits_firstUntrue_11 : decode M_Fits_firstUntrue.2.1 11 = .ok (.ireturn, 1) := by decide +kernel
theorem d_Fits_firstUntrueOf_0 : decode M_Fits_firstUntrueOf.2.1 0 = .ok (.iconst 0, 1) := by decide +kernel
theorem d_Fits_firstUntrueOf_1 : decode M_Fits_firstUntrueOf.2.1 1 = .ok (.istore_n 2, 1) := by decide +kernel
theorem d_Fits_firstUntrueOf_2 : decode M_Fits_firstUntrueOf.2.1 2 = .ok (.iload_n 2, 1) := by decide +kernel
theorem d_Fits_firstUntrueOf_3 : decode M_Fits_firstUntrueOf.2.1 3 = .ok (.aload_n 0, 1) := by decide +kernel
theorem d_Fits_firstUntrueOf_4 : decode M_Fits_firstUntrueOf.2.1 4 = .ok (.getfield 29, 3) := by decide +kernel
theorem d_Fits_firstUntrueOf_7 : decode M_Fits_firstUntrueOf.2.1 7 = .ok (.getfield 72, 3) := by decide +kernel
theorem d_Fits_firstUntrueOf_10 : decode M_Fits_firstUntrueOf.2.1 10 = .ok (.if_icmp .ge 62, 3) := by decide +kernel
theorem d_Fits_firstUntrueOf_13 : decode M_Fits_firstUntrueOf.2.1 13 = .ok (.aload_n 0, 1) := by decide +kernel
theorem d_Fits_firstUntrueOf_14 : decode M_Fits_firstUntrueOf.2.1 14 = .ok (.getfield 29, 3) := by decide +kernel
theorem d_Fits_firstUntrueOf_17 : decode M_Fits_firstUntrueOf.2.1 17 = .ok (.getfield 75, 3) := by decide +kernel
theorem d_Fits_firstUntrueOf_20 : decode M_Fits_firstUntrueOf.2.1 20 = .ok (.iload_n 2, 1) := by decide +kernel
theorem d_Fits_firstUntrueOf_21 : decode M_Fits_firstUntrueOf.2.1 21 = .ok (.iaload, 1) := by decide +kernel
theorem d_Fits_firstUntrueOf_22 : decode M_Fits_firstUntrueOf.2.1 22 = .ok (.istore_n 3, 1) := by decide +kernel
theorem d_Fits_firstUntrueOf_23 : decode M_Fits_firstUntrueOf.2.1 23 = .ok (.aload_n 0, 1) := by decide +kernel
theorem d_Fits_firstUntrueOf_24 : decode M_Fits_firstUntrueOf.2.1 24 = .ok (.getfield 12, 3) := by decide +kernel
theorem d_Fits_firstUntrueOf_27 : decode M_Fits_firstUntrueOf.2.1 27 = .ok (.aload_n 1, 1) := by decide +kernel
theorem d_Fits_firstUntrueOf_28 : decode M_Fits_firstUntrueOf.2.1 28 = .ok (.iload_n 3, 1) := by decide +kernel
theorem d_Fits_firstUntrueOf_29 : decode M_Fits_firstUntrueOf.2.1 29 = .ok (.iconst 1, 1) := by decide +kernel
theorem d_Fits_firstUntrueOf_30 : decode M_Fits_firstUntrueOf.2.1 30 = .ok (.ishr, 1) := by decide +kernel
theorem d_Fits_firstUntrueOf_31 : decode M_Fits_firstUntrueOf.2.1 31 = .ok (.iload_n 3, 1) := by decide +kernel
theorem d_Fits_firstUntrueOf_32 : decode M_Fits_firstUntrueOf.2.1 32 = .ok (.iconst 1, 1) := by decide +kernel
theorem d_Fits_firstUntrueOf_33 : decode M_Fits_firstUntrueOf.2.1 33 = .ok (.iand, 1) := by decide +kernel
theorem d_Fits_firstUntrueOf_34 : decode M_Fits_firstUntrueOf.2.1 34 = .ok (.ifCond .eq 7, 3) := by decide +kernel
theorem d_Fits_firstUntrueOf_37 : decode M_Fits_firstUntrueOf.2.1 37 = .ok (.iconst 1, 1) := by decide +kernel
theorem d_Fits_firstUntrueOf_38 : decode M_Fits_firstUntrueOf.2.1 38 = .ok (.goto 4, 3) := by decide +kernel
theorem d_Fits_firstUntrueOf_41 : decode M_Fits_firstUntrueOf.2.1 41 = .ok (.iconst 0, 1) := by decide +kernel
theorem d_Fits_firstUntrueOf_42 : decode M_Fits_firstUntrueOf.2.1 42 = .ok (.invokevirtual 78, 3) := by decide +kernel
theorem d_Fits_firstUntrueOf_45 : decode M_Fits_firstUntrueOf.2.1 45 = .ok (.aload_n 0, 1) := by decide +kernel
theorem d_Fits_firstUntrueOf_46 : decode M_Fits_firstUntrueOf.2.1 46 = .ok (.getfield 12, 3) := by decide +kernel
theorem d_Fits_firstUntrueOf_49 : decode M_Fits_firstUntrueOf.2.1 49 = .ok (.getfield 82, 3) := by decide +kernel
theorem d_Fits_firstUntrueOf_52 : decode M_Fits_firstUntrueOf.2.1 52 = .ok (.aload_n 0, 1) := by decide +kernel
theorem d_Fits_firstUntrueOf_53 : decode M_Fits_firstUntrueOf.2.1 53 = .ok (.getfield 29, 3) := by decide +kernel
theorem d_Fits_firstUntrueOf_56 : decode M_Fits_firstUntrueOf.2.1 56 = .ok (.getfield 85, 3) := by decide +kernel
theorem d_Fits_firstUntrueOf_59 : decode M_Fits_firstUntrueOf.2.1 59 = .ok (.iload_n 2, 1) := by decide +kernel
theorem d_Fits_firstUntrueOf_60 : decode M_Fits_firstUntrueOf.2.1 60 = .ok (.iaload, 1) := by decide +kernel
theorem d_Fits_firstUntrueOf_61 : decode M_Fits_firstUntrueOf.2.1 61 = .ok (.if_icmp .eq 5, 3) := by decide +kernel
theorem d_Fits_firstUntrueOf_64 : decode M_Fits_firstUntrueOf.2.1 64 = .ok (.iload_n 2, 1) := by decide +kernel
theorem d_Fits_firstUntrueOf_65 : decode M_Fits_firstUntrueOf.2.1 65 = .ok (.ireturn, 1) := by decide +kernel
theorem d_Fits_firstUntrueOf_66 : decode M_Fits_firstUntrueOf.2.1 66 = .ok (.iinc 2 1, 3) := by decide +kernel
theorem d_Fits_firstUntrueOf_69 : decode M_Fits_firstUntrueOf.2.1 69 = .ok (.goto (-67), 3) := by decide +kernel
theorem d_Fits_firstUntrueOf_72 : decode M_Fits_firstUntrueOf.2.1 72 = .ok (.bipush (-2), 2) := by decide +kernel
theorem d_Fits_firstUntrueOf_74 : decode M_Fits_firstUntrueOf.2.1 74 = .ok (.ireturn, 1) := by decide +kernel
theorem d_Fits_mostLeftBy_0 : decode M_Fits_mostLeftBy.2.1 0 = .ok (.iconst 0, 1) := by decide +kernel
theorem d_Fits_mostLeftBy_1 : decode M_Fits_mostLeftBy.2.1 1 = .ok (.istore_n 2, 1) := by decide +kernel
theorem d_Fits_mostLeftBy_2 : decode M_Fits_mostLeftBy.2.1 2 = .ok (.iconst 0, 1) := by decide +kernel
theorem d_Fits_mostLeftBy_3 : decode M_Fits_mostLeftBy.2.1 3 = .ok (.istore_n 3, 1) := by decide +kernel
theorem d_Fits_mostLeftBy_4 : decode M_Fits_mostLeftBy.2.1 4 = .ok (.iconst 0, 1) := by decide +kernel
theorem d_Fits_mostLeftBy_5 : decode M_Fits_mostLeftBy.2.1 5 = .ok (.istore 4, 2) := by decide +kernel
theorem d_Fits_mostLeftBy_7 : decode M_Fits_mostLeftBy.2.1 7 = .ok (.iload 4, 2) := by decide +kernel
theorem d_Fits_mostLeftBy_9 : decode M_Fits_mostLeftBy.2.1 9 = .ok (.aload_n 0, 1) := by decide +kernel
theorem d_Fits_mostLeftBy_10 : decode M_Fits_mostLeftBy.2.1 10 = .ok (.getfield 33, 3) := by decide +kernel
theorem d_Fits_mostLeftBy_13 : decode M_Fits_mostLeftBy.2.1 13 = .ok (.if_icmp .ge 75, 3) := by decide +kernel
theorem d_Fits_mostLeftBy_16 : decode M_Fits_mostLeftBy.2.1 16 = .ok (.aload_n 0, 1) := by decide +kernel
theorem d_Fits_mostLeftBy_17 : decode M_Fits_mostLeftBy.2.1 17 = .ok (.aload_n 0, 1) := by decide +kernel
theorem d_Fits_mostLeftBy_18 : decode M_Fits_mostLeftBy.2.1 18 = .ok (.getfield 25, 3) := by decide +kernel
theorem d_Fits_mostLeftBy_21 : decode M_Fits_mostLeftBy.2.1 21 = .ok (.iload 4, 2) := by decide +kernel
theorem d_Fits_mostLeftBy_23 : decode M_Fits_mostLeftBy.2.1 23 = .ok (.iaload, 1) := by decide +kernel
theorem d_Fits_mostLeftBy_24 : decode M_Fits_mostLeftBy.2.1 24 = .ok (.invokevirtual 49, 3) := by decide +kernel
theorem d_Fits_mostLeftBy_27 : decode M_Fits_mostLeftBy.2.1 27 = .ok (.aload_n 0, 1) := by decide +kernel
theorem d_Fits_mostLeftBy_28 : decode M_Fits_mostLeftBy.2.1 28 = .ok (.getfield 12, 3) := by decide +kernel
theorem d_Fits_mostLeftBy_31 : decode M_Fits_mostLeftBy.2.1 31 = .ok (.aload_n 0, 1) := by decide +kernel
theorem d_Fits_mostLeftBy_32 : decode M_Fits_mostLeftBy.2.1 32 = .ok (.getfield 21, 3) := by decide +kernel
theorem d_Fits_mostLeftBy_35 : decode M_Fits_mostLeftBy.2.1 35 = .ok (.iload_n 1, 1) := by decide +kernel
theorem d_Fits_mostLeftBy_36 : decode M_Fits_mostLeftBy.2.1 36 = .ok (.iconst 1, 1) := by decide +kernel
theorem d_Fits_mostLeftBy_37 : decode M_Fits_mostLeftBy.2.1 37 = .ok (.ishr, 1) := by decide +kernel
theorem d_Fits_mostLeftBy_38 : decode M_Fits_mostLeftBy.2.1 38 = .ok (.iload_n 1, 1) := by decide +kernel
theorem d_Fits_mostLeftBy_39 : decode M_Fits_mostLeftBy.2.1 39 = .ok (.iconst 1, 1) := by decide +kernel
theorem d_Fits_mostLeftBy_40 : decode M_Fits_mostLeftBy.2.1 40 = .ok (.iand, 1) := by decide +kernel
theorem d_Fits_mostLeftBy_41 : decode M_Fits_mostLeftBy.2.1 41 = .ok (.ifCond .eq 7, 3) := by decide +kernel
theorem d_Fits_mostLeftBy_44 : decode M_Fits_mostLeftBy.2.1 44 = .ok (.iconst 1, 1) := by decide +kernel
theorem d_Fits_mostLeftBy_45 : decode M_Fits_mostLeftBy.2.1 45 = .ok (.goto 4, 3) := by decide +kernel
theorem d_Fits_mostLeftBy_48 : decode M_Fits_mostLeftBy.2.1 48 = .ok (.iconst 0, 1) := by decide +kernel
theorem d_Fits_mostLeftBy_49 : decode M_Fits_mostLeftBy.2.1 49 = .ok (.invokevirtual 78, 3) := by decide +kernel
theorem d_Fits_mostLeftBy_52 : decode M_Fits_mostLeftBy.2.1 52 = .ok (.aload_n 0, 1) := by decide +kernel
theorem d_Fits_mostLeftBy_53 : decode M_Fits_mostLeftBy.2.1 53 = .ok (.getfield 12, 3) := by decide +kernel
theorem d_Fits_mostLeftBy_56 : decode M_Fits_mostLeftBy.2.1 56 = .ok (.getfield 82, 3) := by decide +kernel
theorem d_Fits_mostLeftBy_59 : decode M_Fits_mostLeftBy.2.1 59 = .ok (.iconst 1, 1) := by decide +kernel
theorem d_Fits_mostLeftBy_60 : decode M_Fits_mostLeftBy.2.1 60 = .ok (.if_icmp .ne 9, 3) := by decide +kernel
theorem d_Fits_mostLeftBy_63 : decode M_Fits_mostLeftBy.2.1 63 = .ok (.iinc 2 1, 3) := by decide +kernel
theorem d_Fits_mostLeftBy_66 : decode M_Fits_mostLeftBy.2.1 66 = .ok (.goto 16, 3) := by decide +kernel
theorem d_Fits_mostLeftBy_69 : decode M_Fits_mostLeftBy.2.1 69 = .ok (.aload_n 0, 1) := by decide +kernel
theorem d_Fits_mostLeftBy_70 : decode M_Fits_mostLeftBy.2.1 70 = .ok (.getfield 12, 3) := by decide +kernel
theorem d_Fits_mostLeftBy_73 : decode M_Fits_mostLeftBy.2.1 73 = .ok (.getfield 82, 3) := by decide +kernel
theorem d_Fits_mostLeftBy_76 : decode M_Fits_mostLeftBy.2.1 76 = .ok (.ifCond .ne 6, 3) := by decide +kernel
theorem d_Fits_mostLeftBy_79 : decode M_Fits_mostLeftBy.2.1 79 = .ok (.iinc 3 1, 3) := by decide +kernel
theorem d_Fits_mostLeftBy_82 : decode M_Fits_mostLeftBy.2.1 82 = .ok (.iinc 4 1, 3) := by decide +kernel
theorem d_Fits_mostLeftBy_85 : decode M_Fits_mostLeftBy.2.1 85 = .ok (.goto (-78), 3) := by decide +kernel
theorem d_Fits_mostLeftBy_88 : decode M_Fits_mostLeftBy.2.1 88 = .ok (.aload_n 0, 1) := by decide +kernel
theorem d_Fits_mostLeftBy_89 : decode M_Fits_mostLeftBy.2.1 89 = .ok (.getfield 33, 3) := by decide +kernel
theorem d_Fits_mostLeftBy_92 : decode M_Fits_mostLeftBy.2.1 92 = .ok (.iload_n 2, 1) := by decide +kernel
theorem d_Fits_mostLeftBy_93 : decode M_Fits_mostLeftBy.2.1 93 = .ok (.isub, 1) := by decide +kernel
theorem d_Fits_mostLeftBy_94 : decode M_Fits_mostLeftBy.2.1 94 = .ok (.iload_n 3, 1) := by decide +kernel
theorem d_Fits_mostLeftBy_95 : decode M_Fits_mostLeftBy.2.1 95 = .ok (.isub, 1) := by decide +kernel
theorem d_Fits_mostLeftBy_96 : decode M_Fits_mostLeftBy.2.1 96 = .ok (.iload_n 2, 1) := by decide +kernel
theorem d_Fits_mostLeftBy_97 : decode M_Fits_mostLeftBy.2.1 97 = .ok (.iload_n 3, 1) := by decide +kernel
theorem d_Fits_mostLeftBy_98 : decode M_Fits_mostLeftBy.2.1 98 = .ok (.invokestatic 88, 3) := by decide +kernel
theorem d_Fits_mostLeftBy_101 : decode M_Fits_mostLeftBy.2.1 101 = .ok (.invokestatic 88, 3) := by decide +kernel
theorem d_Fits_mostLeftBy_104 : decode M_Fits_mostLeftBy.2.1 104 = .ok (.ireturn, 1) := by decide +kernel
theorem d_Fits_wear_0 : decode M_Fits_wear.2.1 0 = .ok (.iload_n 1, 1) := by decide +kernel
theorem d_Fits_wear_1 : decode M_Fits_wear.2.1 1 = .ok (.istore_n 2, 1) := by decide +kernel
theorem d_Fits_wear_2 : decode M_Fits_wear.2.1 2 = .ok (.aload_n 0, 1) := by decide +kernel
theorem d_Fits_wear_3 : decode M_Fits_wear.2.1 3 = .ok (.getfield 29, 3) := by decide +kernel
theorem d_Fits_wear_6 : decode M_Fits_wear.2.1 6 = .ok (.getfield 37, 3) := by decide +kernel
theorem d_Fits_wear_9 : decode M_Fits_wear.2.1 9 = .ok (.iconst 1, 1) := by decide +kernel
theorem d_Fits_wear_10 : decode M_Fits_wear.2.1 10 = .ok (.isub, 1) := by decide +kernel
theorem d_Fits_wear_11 : decode M_Fits_wear.2.1 11 = .ok (.istore_n 3, 1) := by decide +kernel
theorem d_Fits_wear_12 : decode M_Fits_wear.2.1 12 = .ok (.iload_n 3, 1) := by decide +kernel
theorem d_Fits_wear_13 : decode M_Fits_wear.2.1 13 = .ok (.ifCond .lt 49, 3) := by decide +kernel
theorem d_Fits_wear_16 : decode M_Fits_wear.2.1 16 = .ok (.aload_n 0, 1) := by decide +kernel
theorem d_Fits_wear_17 : decode M_Fits_wear.2.1 17 = .ok (.getfield 29, 3) := by decide +kernel
theorem d_Fits_wear_20 : decode M_Fits_wear.2.1 20 = .ok (.getfield 93, 3) := by decide +kernel
theorem d_Fits_wear_23 : decode M_Fits_wear.2.1 23 = .ok (.iload_n 3, 1) := by decide +kernel
theorem d_Fits_wear_24 : decode M_Fits_wear.2.1 24 = .ok (.iaload, 1) := by decide +kernel
theorem d_Fits_wear_25 : decode M_Fits_wear.2.1 25 = .ok (.istore 4, 2) := by decide +kernel
theorem d_Fits_wear_27 : decode M_Fits_wear.2.1 27 = .ok (.aload_n 0, 1) := by decide +kernel
theorem d_Fits_wear_28 : decode M_Fits_wear.2.1 28 = .ok (.getfield 21, 3) := by decide +kernel
theorem d_Fits_wear_31 : decode M_Fits_wear.2.1 31 = .ok (.iload 4, 2) := by decide +kernel
theorem d_Fits_wear_33 : decode M_Fits_wear.2.1 33 = .ok (.invokevirtual 96, 3) := by decide +kernel
theorem d_Fits_wear_36 : decode M_Fits_wear.2.1 36 = .ok (.ifCond .eq 16, 3) := by decide +kernel
theorem d_Fits_wear_39 : decode M_Fits_wear.2.1 39 = .ok (.aload_n 0, 1) := by decide +kernel
theorem d_Fits_wear_40 : decode M_Fits_wear.2.1 40 = .ok (.getfield 21, 3) := by decide +kernel
theorem d_Fits_wear_43 : decode M_Fits_wear.2.1 43 = .ok (.getfield 100, 3) := by decide +kernel
theorem d_Fits_wear_46 : decode M_Fits_wear.2.1 46 = .ok (.iload 4, 2) := by decide +kernel
theorem d_Fits_wear_48 : decode M_Fits_wear.2.1 48 = .ok (.iload_n 2, 1) := by decide +kernel
theorem d_Fits_wear_49 : decode M_Fits_wear.2.1 49 = .ok (.iconst 5, 1) := by decide +kernel
theorem d_Fits_wear_50 : decode M_Fits_wear.2.1 50 = .ok (.irem, 1) := by decide +kernel
theorem d_Fits_wear_51 : decode M_Fits_wear.2.1 51 = .ok (.iastore, 1) := by decide +kernel
theorem d_Fits_wear_52 : decode M_Fits_wear.2.1 52 = .ok (.iload_n 2, 1) := by decide +kernel
theorem d_Fits_wear_53 : decode M_Fits_wear.2.1 53 = .ok (.iconst 5, 1) := by decide +kernel
theorem d_Fits_wear_54 : decode M_Fits_wear.2.1 54 = .ok (.idiv, 1) := by decide +kernel
theorem d_Fits_wear_55 : decode M_Fits_wear.2.1 55 = .ok (.istore_n 2, 1) := by decide +kernel
theorem d_Fits_wear_56 : decode M_Fits_wear.2.1 56 = .ok (.iinc 3 (-1), 3) := by decide +kernel
theorem d_Fits_wear_59 : decode M_Fits_wear.2.1 59 = .ok (.goto (-47), 3) := by decide +kernel
theorem d_Fits_wear_62 : decode M_Fits_wear.2.1 62 = .ok (.return_, 1) := by decide +kernel
set_option maxRecDepth 4000 in
theorem t_Fits_gather_9 {d : Nat} {I : Nat → Nat → Int32} {J : Nat → Nat → Int64} {R : Nat → Nat → Option Nat} {Q : Option Value → ow_H → Prop}  {v1 : Int32} {v2 : Int32}  (hR : ow_RF R) (T : (((I 2 7) ≤ v2 → (ow_AM M_Scene_take d [.ref 57, .ref 3] (85, I, J, R) (fun r h' => ∃ (I2 : Nat → Nat → Int32) (J2 : Nat → Nat → Int64) (R2 : Nat → Nat → Option Nat), r = none ∧ h' = (85, I2, J2, R2) ∧ ow_RF R2 ∧ ow_AW ow_Y0 (ow_Z Q) M_Fits_gather (d + 1) 0 0 46 [(0, .ref 54), (1, .int v1), (2, .int 0)] [] (85, I2, J2, R2) 0 0))) ∧ (¬ (I 2 7) ≤ v2 → ow_AW ow_Y0 (ow_Z Q) M_Fits_gather (d + 1) 0 0 9 [(0, .ref 54), (1, .int (v1 * 5)), (2, .int (v2 + 1))] [] (85, I, J, R) 0 0))) : ow_AW ow_Y0 (ow_Z Q) M_Fits_gather (d + 1) 0 0 9 [(0, .ref 54), (1, .int v1), (2, .int v2)] [] (85, I, J, R) 0 0 := by
  refine ow_iload_n 2 rfl d_Fits_gather_9 ?_
  refine ow_aload_n 0 rfl d_Fits_gather_10 ?_
  refine ow_gR (a := 2) 125 d_Fits_gather_11 rfl rfl (by decide) rfl ⟨rfl, hR 54 0 (by decide)⟩ ?_
  refine ow_gI 51 d_Fits_gather_14 rfl rfl (by decide) rfl (Or.inl rfl) ?_
  refine ow_icmp_ge (tgt := 30) d_Fits_gather_17 (by decide) (fun c => ?_) (fun c => ?_)
  · replace T := T.1 c
    refine ow_aload_n 0 rfl d_Fits_gather_30 ?_
    refine ow_gR (a := 57) 127 d_Fits_gather_31 rfl rfl (by decide) rfl ⟨rfl, hR 54 2 (by decide)⟩ ?_
    refine ow_aload_n 0 rfl d_Fits_gather_34 ?_
    refine ow_gR (a := 2) 125 d_Fits_gather_35 rfl rfl (by decide) rfl ⟨rfl, hR 54 0 (by decide)⟩ ?_
    refine ow_gR (a := 3) 35 d_Fits_gather_38 rfl rfl (by decide) rfl ⟨rfl, hR 2 2 (by decide)⟩ ?_
    refine ow_callV (b := 57) (cq := 4) (As := [.ref 3]) (rest := []) (d2 := d) d_Fits_gather_41 l_Fits_45 v_Scene_take (show 57 < 85 by decide) rfl (by decide) rfl (Nat.le_of_ble_eq_true rfl) (Nat.le_refl _) ⟨Nat.le_refl _, Nat.le_refl _⟩ (ow_mono T ?_)
    rintro r h' ⟨I2, J2, R2, rfl, rfl, hR2, T⟩
    show ow_AW ow_Y0 (ow_Z Q) M_Fits_gather (d + 1) 0 0 44 [(0, .ref 54), (1, .int v1), (2, .int v2)] [] (85, I2, J2, R2) 0 0
    refine ow_iconst (v := 0) (by decide) d_Fits_gather_44 ?_
    refine ow_istore_n (ls2 := [(2, .int 0), (0, .ref 54), (1, .int v1)]) d_Fits_gather_45 (by decide) rfl ?_
    refine ow_sub [1, 2, 0] rfl ?_
    exact T
  · replace T := T.2 c
    refine ow_iload_n 1 rfl d_Fits_gather_20 ?_
    refine ow_iconst (v := 5) (by decide) d_Fits_gather_21 ?_
    refine ow_imul d_Fits_gather_22 ?_
    refine ow_istore_n (ls2 := [(1, .int (v1 * 5)), (0, .ref 54), (2, .int v2)]) d_Fits_gather_23 (by decide) rfl ?_
    refine ow_iinc 2 (v := (v2 + 1)) (ls2 := [(2, .int (v2 + 1)), (1, .int (v1 * 5)), (0, .ref 54)]) d_Fits_gather_24 rfl rfl (by decide) rfl ?_
    refine ow_goto (tgt := 9) d_Fits_gather_27 (by decide) ?_
    refine ow_sub [2, 1, 0] rfl ?_
    exact T
set_option maxRecDepth 4000 in
theorem t_Fits_gather_46 {d : Nat} {I : Nat → Nat → Int32} {J : Nat → Nat → Int64} {R : Nat → Nat → Option Nat} {Q : Option Value → ow_H → Prop}  {v1 : Int32} {v2 : Int32}  (hR : ow_RF R) (T : ((v1 ≤ v2 → Q none (85, I, J, R)) ∧ (¬ v1 ≤ v2 → ((125 ≤ (I 54 4) → Q none (85, I, J, R)) ∧ (¬ 125 ≤ (I 54 4) → (ow_AM M_Fits_wear d [.ref 54, .int v2] (85, I, J, R) (fun r h' => ∃ (I3 : Nat → Nat → Int32) (J3 : Nat → Nat → Int64) (R3 : Nat → Nat → Option Nat), r = none ∧ h' = (85, I3, J3, R3) ∧ ow_RF R3 ∧ (ow_AM M_Fits_firstUntrueOf d [.ref 54, .ref 57] (85, I3, J3, R3) (fun r h' => ∃ (r4 : Int32) (I4 : Nat → Nat → Int32) (J4 : Nat → Nat → Int64) (R4 : Nat → Nat → Option Nat), r = some (.int r4) ∧ h' = (85, I4, J4, R4) ∧ ow_RF R4 ∧ ((¬ r4 = (-2) → ow_AW ow_Y0 (ow_Z Q) M_Fits_gather (d + 1) 0 0 46 [(0, .ref 54), (1, .int v1), (2, .int (v2 + 1))] [] (85, I4, J4, R4) 0 0) ∧ (r4 = (-2) → (vp_in (I4 54 4) 125 ∧ (∀ (I5 : Nat → Nat → Int32), I5 = ow_u I4 61 ((I4 54 4).toNatClampNeg) v2 → (∀ (I6 : Nat → Nat → Int32), I6 = ow_u I5 54 4 ((I5 54 4) + 1) → ow_AW ow_Y0 (ow_Z Q) M_Fits_gather (d + 1) 0 0 46 [(0, .ref 54), (1, .int v1), (2, .int (v2 + 1))] [] (85, I6, J4, R4) 0 0)))))))))))))) : ow_AW ow_Y0 (ow_Z Q) M_Fits_gather (d + 1) 0 0 46 [(0, .ref 54), (1, .int v1), (2, .int v2)] [] (85, I, J, R) 0 0 := by
  refine ow_iload_n 2 rfl d_Fits_gather_46 ?_
  refine ow_iload_n 1 rfl d_Fits_gather_47 ?_
  refine ow_icmp_ge (tgt := 104) d_Fits_gather_48 (by decide) (fun c => ?_) (fun c => ?_)
  · replace T := T.1 c
    exact ow_vret d_Fits_gather_104 rfl T
  · replace T := T.2 c
    refine ow_aload_n 0 rfl d_Fits_gather_51 ?_
    refine ow_gI 130 d_Fits_gather_52 rfl rfl (by decide) rfl (Or.inl rfl) ?_
    refine ow_bipush (v := 125) (by decide) d_Fits_gather_55 ?_
    refine ow_icmp_ge (tgt := 104) d_Fits_gather_57 (by decide) (fun c => ?_) (fun c => ?_)
    · replace T := T.1 c
      exact ow_vret d_Fits_gather_104 rfl T
    · replace T := T.2 c
      refine ow_aload_n 0 rfl d_Fits_gather_60 ?_
      refine ow_iload_n 2 rfl d_Fits_gather_61 ?_
      refine ow_callV (b := 54) (cq := 1) (As := [.int v2]) (rest := []) (d2 := d) d_Fits_gather_62 l_Fits_49 v_Fits_wear (show 54 < 85 by decide) rfl (by decide) rfl (Nat.le_of_ble_eq_true rfl) (Nat.le_refl _) ⟨Nat.le_refl _, Nat.le_refl _⟩ (ow_mono T ?_)
      rintro r h' ⟨I3, J3, R3, rfl, rfl, hR3, T⟩
      show ow_AW ow_Y0 (ow_Z Q) M_Fits_gather (d + 1) 0 0 65 [(0, .ref 54), (1, .int v1), (2, .int v2)] [] (85, I3, J3, R3) 0 0
      refine ow_aload_n 0 rfl d_Fits_gather_65 ?_
      refine ow_aload_n 0 rfl d_Fits_gather_66 ?_
      refine ow_gR (a := 57) 127 d_Fits_gather_67 rfl rfl (by decide) rfl ⟨rfl, hR3 54 2 (by decide)⟩ ?_
      refine ow_callV (b := 54) (cq := 1) (As := [.ref 57]) (rest := []) (d2 := d) d_Fits_gather_70 l_Fits_53 v_Fits_firstUntrueOf (show 54 < 85 by decide) rfl (by decide) rfl (Nat.le_of_ble_eq_true rfl) (Nat.le_refl _) ⟨Nat.le_refl _, Nat.le_refl _⟩ (ow_mono T ?_)
      rintro r h' ⟨r4, I4, J4, R4, rfl, rfl, hR4, T⟩
      show ow_AW ow_Y0 (ow_Z Q) M_Fits_gather (d + 1) 0 0 73 [(0, .ref 54), (1, .int v1), (2, .int v2)] [.int r4] (85, I4, J4, R4) 0 0
      refine ow_bipush (v := (-2)) (by decide) d_Fits_gather_73 ?_
      refine ow_icmp_ne (tgt := 98) d_Fits_gather_75 (by decide) (fun c => ?_) (fun c => ?_)
      · replace T := T.1 c
        refine ow_iinc 2 (v := (v2 + 1)) (ls2 := [(2, .int (v2 + 1)), (0, .ref 54), (1, .int v1)]) d_Fits_gather_98 rfl rfl (by decide) rfl ?_
        refine ow_goto (tgt := 46) d_Fits_gather_101 (by decide) ?_
        refine ow_sub [1, 2, 0] rfl ?_
        exact T
      · replace T := T.2 c
        refine ow_aload_n 0 rfl d_Fits_gather_78 ?_
        refine ow_gR (a := 61) 128 d_Fits_gather_79 rfl rfl (by decide) rfl ⟨rfl, hR4 54 3 (by decide)⟩ ?_
        refine ow_aload_n 0 rfl d_Fits_gather_82 ?_
        refine ow_gI 130 d_Fits_gather_83 rfl rfl (by decide) rfl (Or.inl rfl) ?_
        refine ow_iload_n 2 rfl d_Fits_gather_86 ?_
        obtain ⟨cI, T⟩ := T
        refine ow_hiastore d_Fits_gather_87 (by decide) rfl rfl cI ?_
        obtain ⟨I5, eI5⟩ : ∃ uu, uu = ow_u I4 61 ((I4 54 4).toNatClampNeg) v2 := ⟨_, rfl⟩
        replace T := T I5 eI5
        rw [← eI5]
        refine ow_aload_n 0 rfl d_Fits_gather_88 ?_
        refine ow_dup rfl d_Fits_gather_89 ?_
        refine ow_gI 130 d_Fits_gather_90 rfl rfl (by decide) rfl (Or.inl rfl) ?_
        refine ow_iconst (v := 1) (by decide) d_Fits_gather_93 ?_
        refine ow_iadd d_Fits_gather_94 ?_
        refine ow_pI 130 d_Fits_gather_95 rfl rfl (by decide) rfl rfl rfl ?_
        obtain ⟨I6, eI6⟩ : ∃ uu, uu = ow_u I5 54 4 ((I5 54 4) + 1) := ⟨_, rfl⟩
        replace T := T I6 eI6
        rw [← eI6]
        refine ow_iinc 2 (v := (v2 + 1)) (ls2 := [(2, .int (v2 + 1)), (0, .ref 54), (1, .int v1)]) d_Fits_gather_98 rfl rfl (by decide) rfl ?_
        refine ow_goto (tgt := 46) d_Fits_gather_101 (by decide) ?_
        refine ow_sub [1, 2, 0] rfl ?_
        exact T
set_option maxRecDepth 4000 in
theorem t_Fits_gather {d : Nat} {I : Nat → Nat → Int32} {J : Nat → Nat → Int64} {R : Nat → Nat → Option Nat} {Q : Option Value → ow_H → Prop}   (hR : ow_RF R) (T : (∀ (I7 : Nat → Nat → Int32), I7 = ow_u I 54 4 0 → ow_AW ow_Y0 (ow_Z Q) M_Fits_gather (d + 1) 0 0 9 [(0, .ref 54), (1, .int 1), (2, .int 0)] [] (85, I7, J, R) 0 0)) : ow_AM M_Fits_gather (d + 1) [.ref 54] (85, I, J, R) Q := by
  refine ow_enter (by decide) (Nat.le_of_ble_eq_true rfl) ?_
  show ow_AW ow_Y0 (ow_Z Q) M_Fits_gather (d + 1) 0 0 0 [(0, .ref 54)] [] (85, I, J, R) 0 0
  refine ow_aload_n 0 rfl d_Fits_gather_0 ?_
  refine ow_iconst (v := 0) (by decide) d_Fits_gather_1 ?_
  refine ow_pI 130 d_Fits_gather_2 rfl rfl (by decide) rfl rfl rfl ?_
  obtain ⟨I7, eI7⟩ : ∃ uu, uu = ow_u I 54 4 0 := ⟨_, rfl⟩
  replace T := T I7 eI7
  rw [← eI7]
  refine ow_iconst (v := 1) (by decide) d_Fits_gather_5 ?_
  refine ow_istore_n (ls2 := [(1, .int 1), (0, .ref 54)]) d_Fits_gather_6 (by decide) rfl ?_
  refine ow_iconst (v := 0) (by decide) d_Fits_gather_7 ?_
  refine ow_istore_n (ls2 := [(2, .int 0), (1, .int 1), (0, .ref 54)]) d_Fits_gather_8 (by decide) rfl ?_
  refine ow_sub [2, 1, 0] rfl ?_
  exact T
set_option maxRecDepth 4000 in
theorem t_Fits_shapeBy_7 {d : Nat} {I : Nat → Nat → Int32} {J : Nat → Nat → Int64} {R : Nat → Nat → Option Nat} {Q : Option Value → ow_H → Prop}  {v3 : Int32} {v4 : Int32}  (hR : ow_RF R) (T : (((I 2 7) ≤ v4 → Q (some (.int (v3 - v3 / 5 * 5))) (85, I, J, R)) ∧ (¬ (I 2 7) ≤ v4 → ow_AW ow_Y0 (ow_Z Q) M_Fits_shapeBy (d + 1) 0 0 7 [(0, .ref 54), (3, .int (v3 / 5)), (4, .int (v4 + 1))] [] (85, I, J, R) 0 0))) : ow_AW ow_Y0 (ow_Z Q) M_Fits_shapeBy (d + 1) 0 0 7 [(0, .ref 54), (3, .int v3), (4, .int v4)] [] (85, I, J, R) 0 0 := by
  refine ow_iload 2 rfl d_Fits_shapeBy_7 ?_
  refine ow_aload_n 0 rfl d_Fits_shapeBy_9 ?_
  refine ow_gR (a := 2) 125 d_Fits_shapeBy_10 rfl rfl (by decide) rfl ⟨rfl, hR 54 0 (by decide)⟩ ?_
  refine ow_gI 51 d_Fits_shapeBy_13 rfl rfl (by decide) rfl (Or.inl rfl) ?_
  refine ow_icmp_ge (tgt := 29) d_Fits_shapeBy_16 (by decide) (fun c => ?_) (fun c => ?_)
  · replace T := T.1 c
    refine ow_iload_n 1 rfl d_Fits_shapeBy_29 ?_
    refine ow_iconst (v := 5) (by decide) d_Fits_shapeBy_30 ?_
    refine ow_irem (by decide) d_Fits_shapeBy_31 ?_
    exact ow_iret d_Fits_shapeBy_32 rfl T
  · replace T := T.2 c
    refine ow_iload_n 1 rfl d_Fits_shapeBy_19 ?_
    refine ow_iconst (v := 5) (by decide) d_Fits_shapeBy_20 ?_
    refine ow_idiv (by decide) d_Fits_shapeBy_21 ?_
    refine ow_istore_n (ls2 := [(3, .int (v3 / 5)), (0, .ref 54), (4, .int v4)]) d_Fits_shapeBy_22 (by decide) rfl ?_
    refine ow_iinc 2 (v := (v4 + 1)) (ls2 := [(4, .int (v4 + 1)), (3, .int (v3 / 5)), (0, .ref 54)]) d_Fits_shapeBy_23 rfl rfl (by decide) rfl ?_
    refine ow_goto (tgt := 7) d_Fits_shapeBy_26 (by decide) ?_
    refine ow_sub [2, 1, 0] rfl ?_
    exact T
set_option maxRecDepth 4000 in
theorem t_Fits_shapeBy {d : Nat} {I : Nat → Nat → Int32} {J : Nat → Nat → Int64} {R : Nat → Nat → Option Nat} {Q : Option Value → ow_H → Prop} {p1 : Int32} {p2 : Int32}  (hR : ow_RF R) (T : ow_AW ow_Y0 (ow_Z Q) M_Fits_shapeBy (d + 1) 0 0 7 [(0, .ref 54), (3, .int p1), (4, .int (p2 + 1))] [] (85, I, J, R) 0 0) : ow_AM M_Fits_shapeBy (d + 1) [.ref 54, .int p1, .int p2] (85, I, J, R) Q := by
  refine ow_enter (by decide) (Nat.le_of_ble_eq_true rfl) ?_
  show ow_AW ow_Y0 (ow_Z Q) M_Fits_shapeBy (d + 1) 0 0 0 [(0, .ref 54), (1, .int p1), (2, .int p2)] [] (85, I, J, R) 0 0
  refine ow_iload_n 1 rfl d_Fits_shapeBy_0 ?_
  refine ow_istore_n (ls2 := [(3, .int p1), (0, .ref 54), (1, .int p1), (2, .int p2)]) d_Fits_shapeBy_1 (by decide) rfl ?_
  refine ow_iload_n 3 rfl d_Fits_shapeBy_2 ?_
  refine ow_iconst (v := 1) (by decide) d_Fits_shapeBy_3 ?_
  refine ow_iadd d_Fits_shapeBy_4 ?_
  refine ow_istore (ls2 := [(4, .int (p2 + 1)), (3, .int p1), (0, .ref 54), (1, .int p1), (2, .int p2)]) d_Fits_shapeBy_5 (by decide) rfl ?_
  refine ow_sub [2, 1, 0] rfl ?_
  exact T
set_option maxRecDepth 4000 in
theorem t_Fits_countShaped_5 {d : Nat} {I : Nat → Nat → Int32} {J : Nat → Nat → Int64} {R : Nat → Nat → Option Nat} {Q : Option Value → ow_H → Prop}  {v1 : Int32} {v2 : Int32} {v3 : Int32} {v4 : Int32}  (hR : ow_RF R) (T : (((I 54 4) ≤ v4 → Q (some (.int v3)) (85, I, J, R)) ∧ (¬ (I 54 4) ≤ v4 → (vp_in v4 125 ∧ (ow_AM M_Fits_shapeBy d [.ref 54, .int (I 61 v4.toNatClampNeg), .int v1] (85, I, J, R) (fun r h' => ∃ (r1 : Int32) (I1 : Nat → Nat → Int32) (J1 : Nat → Nat → Int64) (R1 : Nat → Nat → Option Nat), r = some (.int r1) ∧ h' = (85, I1, J1, R1) ∧ ow_RF R1 ∧ ((¬ r1 = v2 → ow_AW ow_Y0 (ow_Z Q) M_Fits_countShaped (d + 1) 0 0 5 [(0, .ref 54), (1, .int v1), (2, .int v2), (3, .int v3), (4, .int (v4 + 1))] [] (85, I1, J1, R1) 0 0) ∧ (r1 = v2 → ow_AW ow_Y0 (ow_Z Q) M_Fits_countShaped (d + 1) 0 0 5 [(0, .ref 54), (1, .int v1), (2, .int v2), (3, .int (v3 + 1)), (4, .int (v4 + 1))] [] (85, I1, J1, R1) 0 0)))))))) : ow_AW ow_Y0 (ow_Z Q) M_Fits_countShaped (d + 1) 0 0 5 [(0, .ref 54), (1, .int v1), (2, .int v2), (3, .int v3), (4, .int v4)] [] (85, I, J, R) 0 0 := by
  refine ow_iload 4 rfl d_Fits_countShaped_5 ?_
  refine ow_aload_n 0 rfl d_Fits_countShaped_7 ?_
  refine ow_gI 130 d_Fits_countShaped_8 rfl rfl (by decide) rfl (Or.inl rfl) ?_
  refine ow_icmp_ge (tgt := 39) d_Fits_countShaped_11 (by decide) (fun c => ?_) (fun c => ?_)
  · replace T := T.1 c
    refine ow_iload_n 3 rfl d_Fits_countShaped_39 ?_
    exact ow_iret d_Fits_countShaped_40 rfl T
  · replace T := T.2 c
    refine ow_aload_n 0 rfl d_Fits_countShaped_14 ?_
    refine ow_aload_n 0 rfl d_Fits_countShaped_15 ?_
    refine ow_gR (a := 61) 128 d_Fits_countShaped_16 rfl rfl (by decide) rfl ⟨rfl, hR 54 3 (by decide)⟩ ?_
    refine ow_iload 4 rfl d_Fits_countShaped_19 ?_
    obtain ⟨cI, T⟩ := T
    refine ow_hiaload d_Fits_countShaped_21 (by decide) rfl rfl cI ?_
    refine ow_iload_n 1 rfl d_Fits_countShaped_22 ?_
    refine ow_callV (b := 54) (cq := 1) (As := [.int (I 61 v4.toNatClampNeg), .int v1]) (rest := []) (d2 := d) d_Fits_countShaped_23 l_Fits_57 v_Fits_shapeBy (show 54 < 85 by decide) rfl (by decide) rfl (Nat.le_of_ble_eq_true rfl) (Nat.le_refl _) ⟨Nat.le_refl _, Nat.le_refl _⟩ (ow_mono T ?_)
    rintro r h' ⟨r1, I1, J1, R1, rfl, rfl, hR1, T⟩
    show ow_AW ow_Y0 (ow_Z Q) M_Fits_countShaped (d + 1) 0 0 26 [(0, .ref 54), (1, .int v1), (2, .int v2), (3, .int v3), (4, .int v4)] [.int r1] (85, I1, J1, R1) 0 0
    refine ow_iload_n 2 rfl d_Fits_countShaped_26 ?_
    refine ow_icmp_ne (tgt := 33) d_Fits_countShaped_27 (by decide) (fun c => ?_) (fun c => ?_)
    · replace T := T.1 c
      refine ow_iinc 4 (v := (v4 + 1)) (ls2 := [(4, .int (v4 + 1)), (0, .ref 54), (1, .int v1), (2, .int v2), (3, .int v3)]) d_Fits_countShaped_33 rfl rfl (by decide) rfl ?_
      refine ow_goto (tgt := 5) d_Fits_countShaped_36 (by decide) ?_
      refine ow_sub [1, 2, 3, 4, 0] rfl ?_
      exact T
    · replace T := T.2 c
      refine ow_iinc 3 (v := (v3 + 1)) (ls2 := [(3, .int (v3 + 1)), (0, .ref 54), (1, .int v1), (2, .int v2), (4, .int v4)]) d_Fits_countShaped_30 rfl rfl (by decide) rfl ?_
      refine ow_iinc 4 (v := (v4 + 1)) (ls2 := [(4, .int (v4 + 1)), (3, .int (v3 + 1)), (0, .ref 54), (1, .int v1), (2, .int v2)]) d_Fits_countShaped_33 rfl rfl (by decide) rfl ?_
      refine ow_goto (tgt := 5) d_Fits_countShaped_36 (by decide) ?_
      refine ow_sub [2, 3, 4, 1, 0] rfl ?_
      exact T
set_option maxRecDepth 4000 in
theorem t_Fits_countShaped {d : Nat} {I : Nat → Nat → Int32} {J : Nat → Nat → Int64} {R : Nat → Nat → Option Nat} {Q : Option Value → ow_H → Prop} {p1 : Int32} {p2 : Int32}  (hR : ow_RF R) (T : ow_AW ow_Y0 (ow_Z Q) M_Fits_countShaped (d + 1) 0 0 5 [(0, .ref 54), (1, .int p1), (2, .int p2), (3, .int 0), (4, .int 0)] [] (85, I, J, R) 0 0) : ow_AM M_Fits_countShaped (d + 1) [.ref 54, .int p1, .int p2] (85, I, J, R) Q := by
  refine ow_enter (by decide) (Nat.le_of_ble_eq_true rfl) ?_
  show ow_AW ow_Y0 (ow_Z Q) M_Fits_countShaped (d + 1) 0 0 0 [(0, .ref 54), (1, .int p1), (2, .int p2)] [] (85, I, J, R) 0 0
  refine ow_iconst (v := 0) (by decide) d_Fits_countShaped_0 ?_
  refine ow_istore_n (ls2 := [(3, .int 0), (0, .ref 54), (1, .int p1), (2, .int p2)]) d_Fits_countShaped_1 (by decide) rfl ?_
  refine ow_iconst (v := 0) (by decide) d_Fits_countShaped_2 ?_
  refine ow_istore (ls2 := [(4, .int 0), (3, .int 0), (0, .ref 54), (1, .int p1), (2, .int p2)]) d_Fits_countShaped_3 (by decide) rfl ?_
  refine ow_sub [2, 3, 4, 1, 0] rfl ?_
  exact T
set_option maxRecDepth 4000 in
theorem t_Fits_findTry_36 {d : Nat} {I : Nat → Nat → Int32} {J : Nat → Nat → Int64} {R : Nat → Nat → Option Nat} {Q : Option Value → ow_H → Prop}  {v1 : Int32}  (hR : ow_RF R) (T : (((2 * (I 3 0)) ≤ v1 → Q none (85, I, J, R)) ∧ (¬ (2 * (I 3 0)) ≤ v1 → (ow_AM M_Fits_mostLeftBy d [.ref 54, .int v1] (85, I, J, R) (fun r h' => ∃ (r4 : Int32) (I4 : Nat → Nat → Int32) (J4 : Nat → Nat → Int64) (R4 : Nat → Nat → Option Nat), r = some (.int r4) ∧ h' = (85, I4, J4, R4) ∧ ow_RF R4 ∧ (((I4 54 5) = (-2) → (∀ (I5 : Nat → Nat → Int32), I5 = ow_u I4 54 5 v1 → (∀ (I6 : Nat → Nat → Int32), I6 = ow_u I5 54 6 r4 → ow_AW ow_Y0 (ow_Z Q) M_Fits_findTry (d + 1) 0 0 36 [(0, .ref 54), (1, .int (v1 + 1))] [] (85, I6, J4, R4) 0 0))) ∧ (¬ (I4 54 5) = (-2) → (((I4 54 6) ≤ r4 → ow_AW ow_Y0 (ow_Z Q) M_Fits_findTry (d + 1) 0 0 36 [(0, .ref 54), (1, .int (v1 + 1))] [] (85, I4, J4, R4) 0 0) ∧ (¬ (I4 54 6) ≤ r4 → (∀ (I7 : Nat → Nat → Int32), I7 = ow_u I4 54 5 v1 → (∀ (I8 : Nat → Nat → Int32), I8 = ow_u I7 54 6 r4 → ow_AW ow_Y0 (ow_Z Q) M_Fits_findTry (d + 1) 0 0 36 [(0, .ref 54), (1, .int (v1 + 1))] [] (85, I8, J4, R4) 0 0))))))))))) : ow_AW ow_Y0 (ow_Z Q) M_Fits_findTry (d + 1) 0 0 36 [(0, .ref 54), (1, .int v1)] [] (85, I, J, R) 0 0 := by
  refine ow_iload_n 1 rfl d_Fits_findTry_36 ?_
  refine ow_iconst (v := 2) (by decide) d_Fits_findTry_37 ?_
  refine ow_aload_n 0 rfl d_Fits_findTry_38 ?_
  refine ow_gR (a := 2) 125 d_Fits_findTry_39 rfl rfl (by decide) rfl ⟨rfl, hR 54 0 (by decide)⟩ ?_
  refine ow_gR (a := 3) 35 d_Fits_findTry_42 rfl rfl (by decide) rfl ⟨rfl, hR 2 2 (by decide)⟩ ?_
  refine ow_gI 5 d_Fits_findTry_45 rfl rfl (by decide) rfl (Or.inl rfl) ?_
  refine ow_imul d_Fits_findTry_48 ?_
  refine ow_icmp_ge (tgt := 91) d_Fits_findTry_49 (by decide) (fun c => ?_) (fun c => ?_)
  · replace T := T.1 c
    exact ow_vret d_Fits_findTry_91 rfl T
  · replace T := T.2 c
    refine ow_aload_n 0 rfl d_Fits_findTry_52 ?_
    refine ow_iload_n 1 rfl d_Fits_findTry_53 ?_
    refine ow_callV (b := 54) (cq := 1) (As := [.int v1]) (rest := []) (d2 := d) d_Fits_findTry_54 l_Fits_68 v_Fits_mostLeftBy (show 54 < 85 by decide) rfl (by decide) rfl (Nat.le_of_ble_eq_true rfl) (Nat.le_refl _) ⟨Nat.le_refl _, Nat.le_refl _⟩ (ow_mono T ?_)
    rintro r h' ⟨r4, I4, J4, R4, rfl, rfl, hR4, T⟩
    show ow_AW ow_Y0 (ow_Z Q) M_Fits_findTry (d + 1) 0 0 57 [(0, .ref 54), (1, .int v1)] [.int r4] (85, I4, J4, R4) 0 0
    refine ow_istore_n (ls2 := [(2, .int r4), (0, .ref 54), (1, .int v1)]) d_Fits_findTry_57 (by decide) rfl ?_
    refine ow_aload_n 1 rfl d_Fits_findTry_58 ?_
    refine ow_gI 132 d_Fits_findTry_59 rfl rfl (by decide) rfl (Or.inl rfl) ?_
    refine ow_bipush (v := (-2)) (by decide) d_Fits_findTry_62 ?_
    refine ow_icmp_eq (tgt := 75) d_Fits_findTry_64 (by decide) (fun c => ?_) (fun c => ?_)
    · replace T := T.1 c
      refine ow_aload_n 1 rfl d_Fits_findTry_75 ?_
      refine ow_iload_n 2 rfl d_Fits_findTry_76 ?_
      refine ow_pI 132 d_Fits_findTry_77 rfl rfl (by decide) rfl rfl rfl ?_
      obtain ⟨I5, eI5⟩ : ∃ uu, uu = ow_u I4 54 5 v1 := ⟨_, rfl⟩
      replace T := T I5 eI5
      rw [← eI5]
      refine ow_aload_n 1 rfl d_Fits_findTry_80 ?_
      refine ow_iload_n 0 rfl d_Fits_findTry_81 ?_
      refine ow_pI 134 d_Fits_findTry_82 rfl rfl (by decide) rfl rfl rfl ?_
      obtain ⟨I6, eI6⟩ : ∃ uu, uu = ow_u I5 54 6 r4 := ⟨_, rfl⟩
      replace T := T I6 eI6
      rw [← eI6]
      refine ow_iinc 2 (v := (v1 + 1)) (ls2 := [(1, .int (v1 + 1)), (2, .int r4), (0, .ref 54)]) d_Fits_findTry_85 rfl rfl (by decide) rfl ?_
      refine ow_goto (tgt := 36) d_Fits_findTry_88 (by decide) ?_
      refine ow_sub [2, 0] rfl ?_
      exact T
    · replace T := T.2 c
      refine ow_iload_n 0 rfl d_Fits_findTry_67 ?_
      refine ow_aload_n 1 rfl d_Fits_findTry_68 ?_
      refine ow_gI 134 d_Fits_findTry_69 rfl rfl (by decide) rfl (Or.inl rfl) ?_
      refine ow_icmp_ge (tgt := 85) d_Fits_findTry_72 (by decide) (fun c => ?_) (fun c => ?_)
      · replace T := T.1 c
        refine ow_iinc 2 (v := (v1 + 1)) (ls2 := [(1, .int (v1 + 1)), (2, .int r4), (0, .ref 54)]) d_Fits_findTry_85 rfl rfl (by decide) rfl ?_
        refine ow_goto (tgt := 36) d_Fits_findTry_88 (by decide) ?_
        refine ow_sub [2, 0] rfl ?_
        exact T
      · replace T := T.2 c
        refine ow_aload_n 1 rfl d_Fits_findTry_75 ?_
        refine ow_iload_n 2 rfl d_Fits_findTry_76 ?_
        refine ow_pI 132 d_Fits_findTry_77 rfl rfl (by decide) rfl rfl rfl ?_
        obtain ⟨I7, eI7⟩ : ∃ uu, uu = ow_u I4 54 5 v1 := ⟨_, rfl⟩
        replace T := T I7 eI7
        rw [← eI7]
        refine ow_aload_n 1 rfl d_Fits_findTry_80 ?_
        refine ow_iload_n 0 rfl d_Fits_findTry_81 ?_
        refine ow_pI 134 d_Fits_findTry_82 rfl rfl (by decide) rfl rfl rfl ?_
        obtain ⟨I8, eI8⟩ : ∃ uu, uu = ow_u I7 54 6 r4 := ⟨_, rfl⟩
        replace T := T I8 eI8
        rw [← eI8]
        refine ow_iinc 2 (v := (v1 + 1)) (ls2 := [(1, .int (v1 + 1)), (2, .int r4), (0, .ref 54)]) d_Fits_findTry_85 rfl rfl (by decide) rfl ?_
        refine ow_goto (tgt := 36) d_Fits_findTry_88 (by decide) ?_
        refine ow_sub [2, 0] rfl ?_
        exact T
set_option maxRecDepth 4000 in
theorem t_Fits_findTry {d : Nat} {I : Nat → Nat → Int32} {J : Nat → Nat → Int64} {R : Nat → Nat → Option Nat} {Q : Option Value → ow_H → Prop}   (hR : ow_RF R) (T : (∀ (I9 : Nat → Nat → Int32), I9 = ow_u I 54 5 (-2) → (∀ (I10 : Nat → Nat → Int32), I10 = ow_u I9 54 6 (-2) → ((¬ (I10 54 4) = 0 → (ow_AM M_Scene_take d [.ref 57, .ref 3] (85, I10, J, R) (fun r h' => ∃ (I11 : Nat → Nat → Int32) (J11 : Nat → Nat → Int64) (R11 : Nat → Nat → Option Nat), r = none ∧ h' = (85, I11, J11, R11) ∧ ow_RF R11 ∧ ow_AW ow_Y0 (ow_Z Q) M_Fits_findTry (d + 1) 0 0 36 [(0, .ref 54), (1, .int 0)] [] (85, I11, J11, R11) 0 0))) ∧ ((I10 54 4) = 0 → Q none (85, I10, J, R)))))) : ow_AM M_Fits_findTry (d + 1) [.ref 54] (85, I, J, R) Q := by
  refine ow_enter (by decide) (Nat.le_of_ble_eq_true rfl) ?_
  show ow_AW ow_Y0 (ow_Z Q) M_Fits_findTry (d + 1) 0 0 0 [(0, .ref 54)] [] (85, I, J, R) 0 0
  refine ow_aload_n 0 rfl d_Fits_findTry_0 ?_
  refine ow_bipush (v := (-2)) (by decide) d_Fits_findTry_1 ?_
  refine ow_pI 132 d_Fits_findTry_3 rfl rfl (by decide) rfl rfl rfl ?_
  obtain ⟨I9, eI9⟩ : ∃ uu, uu = ow_u I 54 5 (-2) := ⟨_, rfl⟩
  replace T := T I9 eI9
  rw [← eI9]
  refine ow_aload_n 0 rfl d_Fits_findTry_6 ?_
  refine ow_bipush (v := (-2)) (by decide) d_Fits_findTry_7 ?_
  refine ow_pI 134 d_Fits_findTry_9 rfl rfl (by decide) rfl rfl rfl ?_
  obtain ⟨I10, eI10⟩ : ∃ uu, uu = ow_u I9 54 6 (-2) := ⟨_, rfl⟩
  replace T := T I10 eI10
  rw [← eI10]
  refine ow_aload_n 0 rfl d_Fits_findTry_12 ?_
  refine ow_gI 130 d_Fits_findTry_13 rfl rfl (by decide) rfl (Or.inl rfl) ?_
  refine ow_if_ne (tgt := 20) d_Fits_findTry_16 (by decide) (fun c => ?_) (fun c => ?_)
  · replace T := T.1 c
    refine ow_aload_n 0 rfl d_Fits_findTry_20 ?_
    refine ow_gR (a := 57) 127 d_Fits_findTry_21 rfl rfl (by decide) rfl ⟨rfl, hR 54 2 (by decide)⟩ ?_
    refine ow_aload_n 0 rfl d_Fits_findTry_24 ?_
    refine ow_gR (a := 2) 125 d_Fits_findTry_25 rfl rfl (by decide) rfl ⟨rfl, hR 54 0 (by decide)⟩ ?_
    refine ow_gR (a := 3) 35 d_Fits_findTry_28 rfl rfl (by decide) rfl ⟨rfl, hR 2 2 (by decide)⟩ ?_
    refine ow_callV (b := 57) (cq := 4) (As := [.ref 3]) (rest := []) (d2 := d) d_Fits_findTry_31 l_Fits_45 v_Scene_take (show 57 < 85 by decide) rfl (by decide) rfl (Nat.le_of_ble_eq_true rfl) (Nat.le_refl _) ⟨Nat.le_refl _, Nat.le_refl _⟩ (ow_mono T ?_)
    rintro r h' ⟨I11, J11, R11, rfl, rfl, hR11, T⟩
    show ow_AW ow_Y0 (ow_Z Q) M_Fits_findTry (d + 1) 0 0 34 [(0, .ref 54)] [] (85, I11, J11, R11) 0 0
    refine ow_iconst (v := 0) (by decide) d_Fits_findTry_34 ?_
    refine ow_istore_n (ls2 := [(1, .int 0), (0, .ref 54)]) d_Fits_findTry_35 (by decide) rfl ?_
    refine ow_sub [1, 0] rfl ?_
    exact T
  · replace T := T.2 c
    exact ow_vret d_Fits_findTry_19 rfl T
set_option maxRecDepth 4000 in
theorem t_Fits_firstUntrue {d : Nat} {I : Nat → Nat → Int32} {J : Nat → Nat → Int64} {R : Nat → Nat → Option Nat} {Q : Option Value → ow_H → Prop}   (hR : ow_RF R) (T : (ow_AM M_Fits_firstUntrueOf d [.ref 54, .ref 3] (85, I, J, R) (fun r h' => ∃ (r2 : Int32) (I2 : Nat → Nat → Int32) (J2 : Nat → Nat → Int64) (R2 : Nat → Nat → Option Nat), r = some (.int r2) ∧ h' = (85, I2, J2, R2) ∧ ow_RF R2 ∧ Q (some (.int r2)) (85, I2, J2, R2)))) : ow_AM M_Fits_firstUntrue (d + 1) [.ref 54] (85, I, J, R) Q := by
  refine ow_enter (by decide) (Nat.le_of_ble_eq_true rfl) ?_
  show ow_AW ow_Y0 (ow_Z Q) M_Fits_firstUntrue (d + 1) 0 0 0 [(0, .ref 54)] [] (85, I, J, R) 0 0
  refine ow_aload_n 0 rfl d_Fits_firstUntrue_0 ?_
  refine ow_aload_n 0 rfl d_Fits_firstUntrue_1 ?_
  refine ow_gR (a := 2) 125 d_Fits_firstUntrue_2 rfl rfl (by decide) rfl ⟨rfl, hR 54 0 (by decide)⟩ ?_
  refine ow_gR (a := 3) 35 d_Fits_firstUntrue_5 rfl rfl (by decide) rfl ⟨rfl, hR 2 2 (by decide)⟩ ?_
  refine ow_callV (b := 54) (cq := 1) (As := [.ref 3]) (rest := []) (d2 := d) d_Fits_firstUntrue_8 l_Fits_53 v_Fits_firstUntrueOf (show 54 < 85 by decide) rfl (by decide) rfl (Nat.le_of_ble_eq_true rfl) (Nat.le_refl _) ⟨Nat.le_refl _, Nat.le_refl _⟩ (ow_mono T ?_)
  rintro r h' ⟨r2, I2, J2, R2, rfl, rfl, hR2, T⟩
  show ow_AW ow_Y0 (ow_Z Q) M_Fits_firstUntrue (d + 1) 0 0 11 [(0, .ref 54)] [.int r2] (85, I2, J2, R2) 0 0
  exact ow_iret d_Fits_firstUntrue_11 rfl T
set_option maxRecDepth 4000 in
theorem t_Fits_firstUntrueOf_2 {d : Nat} {I : Nat → Nat → Int32} {J : Nat → Nat → Int64} {R : Nat → Nat → Option Nat} {Q : Option Value → ow_H → Prop} {o : Nat} {v2 : Int32} (ho : o ∈ [3, 15, 29, 33, 42, 47, 57]) (hR : ow_RF R) (T : (((I 2 9) ≤ v2 → Q (some (.int (-2))) (85, I, J, R)) ∧ (¬ (I 2 9) ≤ v2 → (vp_in v2 5 ∧ ((((I 11 v2.toNatClampNeg) &&& 1) = 0 → (ow_AM M_Course_run d [.ref 55, .ref o, .int ((I 11 v2.toNatClampNeg) >>> (1 &&& 31)), .int 0] (85, I, J, R) (fun r h' => ∃ (I1 : Nat → Nat → Int32) (J1 : Nat → Nat → Int64) (R1 : Nat → Nat → Option Nat), r = none ∧ h' = (85, I1, J1, R1) ∧ ow_RF R1 ∧ (vp_in v2 5 ∧ (((I1 55 4) = (I1 12 v2.toNatClampNeg) → ow_AW ow_Y0 (ow_Z Q) M_Fits_firstUntrueOf (d + 1) 0 0 2 [(0, .ref 54), (1, .ref o), (2, .int (v2 + 1))] [] (85, I1, J1, R1) 0 0) ∧ (¬ (I1 55 4) = (I1 12 v2.toNatClampNeg) → Q (some (.int v2)) (85, I1, J1, R1))))))) ∧ (¬ ((I 11 v2.toNatClampNeg) &&& 1) = 0 → (ow_AM M_Course_run d [.ref 55, .ref o, .int ((I 11 v2.toNatClampNeg) >>> (1 &&& 31)), .int 1] (85, I, J, R) (fun r h' => ∃ (I2 : Nat → Nat → Int32) (J2 : Nat → Nat → Int64) (R2 : Nat → Nat → Option Nat), r = none ∧ h' = (85, I2, J2, R2) ∧ ow_RF R2 ∧ (vp_in v2 5 ∧ (((I2 55 4) = (I2 12 v2.toNatClampNeg) → ow_AW ow_Y0 (ow_Z Q) M_Fits_firstUntrueOf (d + 1) 0 0 2 [(0, .ref 54), (1, .ref o), (2, .int (v2 + 1))] [] (85, I2, J2, R2) 0 0) ∧ (¬ (I2 55 4) = (I2 12 v2.toNatClampNeg) → Q (some (.int v2)) (85, I2, J2, R2)))))))))))) : ow_AW ow_Y0 (ow_Z Q) M_Fits_firstUntrueOf (d + 1) 0 0 2 [(0, .ref 54), (1, .ref o), (2, .int v2)] [] (85, I, J, R) 0 0 := by
  obtain ⟨o_lt, o_kd, o_r3, o_r4, o_r5, o_k1, o_k2, o_k3, o_n1, o_n2, o_n3⟩ := ow_sc_ok o ho
  refine ow_iload_n 2 rfl d_Fits_firstUntrueOf_2 ?_
  refine ow_aload_n 0 rfl d_Fits_firstUntrueOf_3 ?_
  refine ow_gR (a := 2) 125 d_Fits_firstUntrueOf_4 rfl rfl (by decide) rfl ⟨rfl, hR 54 0 (by decide)⟩ ?_
  refine ow_gI 58 d_Fits_firstUntrueOf_7 rfl rfl (by decide) rfl (Or.inl rfl) ?_
  refine ow_icmp_ge (tgt := 72) d_Fits_firstUntrueOf_10 (by decide) (fun c => ?_) (fun c => ?_)
  · replace T := T.1 c
    refine ow_bipush (v := (-2)) (by decide) d_Fits_firstUntrueOf_72 ?_
    exact ow_iret d_Fits_firstUntrueOf_74 rfl T
  · replace T := T.2 c
    refine ow_aload_n 0 rfl d_Fits_firstUntrueOf_13 ?_
    refine ow_gR (a := 2) 125 d_Fits_firstUntrueOf_14 rfl rfl (by decide) rfl ⟨rfl, hR 54 0 (by decide)⟩ ?_
    refine ow_gR (a := 11) 62 d_Fits_firstUntrueOf_17 rfl rfl (by decide) rfl ⟨rfl, hR 2 10 (by decide)⟩ ?_
    refine ow_iload_n 2 rfl d_Fits_firstUntrueOf_20 ?_
    obtain ⟨cI, T⟩ := T
    refine ow_hiaload d_Fits_firstUntrueOf_21 (by decide) rfl rfl cI ?_
    refine ow_istore_n (ls2 := [(3, .int (I 11 v2.toNatClampNeg)), (0, .ref 54), (1, .ref o), (2, .int v2)]) d_Fits_firstUntrueOf_22 (by decide) rfl ?_
    refine ow_aload_n 1 rfl d_Fits_firstUntrueOf_23 ?_
    refine ow_gR (a := 55) 126 d_Fits_firstUntrueOf_24 rfl rfl (by decide) rfl ⟨rfl, hR 54 1 (by decide)⟩ ?_
    refine ow_aload_n 2 rfl d_Fits_firstUntrueOf_27 ?_
    refine ow_iload_n 0 rfl d_Fits_firstUntrueOf_28 ?_
    refine ow_iconst (v := 1) (by decide) d_Fits_firstUntrueOf_29 ?_
    refine ow_ishr d_Fits_firstUntrueOf_30 ?_
    refine ow_iload_n 0 rfl d_Fits_firstUntrueOf_31 ?_
    refine ow_iconst (v := 1) (by decide) d_Fits_firstUntrueOf_32 ?_
    refine ow_iand d_Fits_firstUntrueOf_33 ?_
    refine ow_if_eq (tgt := 41) d_Fits_firstUntrueOf_34 (by decide) (fun c => ?_) (fun c => ?_)
    · replace T := T.1 c
      refine ow_iconst (v := 0) (by decide) d_Fits_firstUntrueOf_41 ?_
      refine ow_callV (b := 55) (cq := 0) (As := [.ref o, .int ((I 11 v2.toNatClampNeg) >>> (1 &&& 31)), .int 0]) (rest := []) (d2 := d) d_Fits_firstUntrueOf_42 l_Fits_78 v_Course_run (show 55 < 85 by decide) rfl (by decide) rfl (Nat.le_of_ble_eq_true rfl) (Nat.le_refl _) ⟨Nat.le_refl _, Nat.le_refl _⟩ (ow_mono T ?_)
      rintro r h' ⟨I1, J1, R1, rfl, rfl, hR1, T⟩
      show ow_AW ow_Y0 (ow_Z Q) M_Fits_firstUntrueOf (d + 1) 0 0 45 [(3, .int (I 11 v2.toNatClampNeg)), (0, .ref 54), (1, .ref o), (2, .int v2)] [] (85, I1, J1, R1) 0 0
      refine ow_aload_n 1 rfl d_Fits_firstUntrueOf_45 ?_
      refine ow_gR (a := 55) 126 d_Fits_firstUntrueOf_46 rfl rfl (by decide) rfl ⟨rfl, hR1 54 1 (by decide)⟩ ?_
      refine ow_gI 100 d_Fits_firstUntrueOf_49 rfl rfl (by decide) rfl (Or.inl rfl) ?_
      refine ow_aload_n 1 rfl d_Fits_firstUntrueOf_52 ?_
      refine ow_gR (a := 2) 125 d_Fits_firstUntrueOf_53 rfl rfl (by decide) rfl ⟨rfl, hR1 54 0 (by decide)⟩ ?_
      refine ow_gR (a := 12) 64 d_Fits_firstUntrueOf_56 rfl rfl (by decide) rfl ⟨rfl, hR1 2 11 (by decide)⟩ ?_
      refine ow_iload_n 3 rfl d_Fits_firstUntrueOf_59 ?_
      obtain ⟨cI, T⟩ := T
      refine ow_hiaload d_Fits_firstUntrueOf_60 (by decide) rfl rfl cI ?_
      refine ow_icmp_eq (tgt := 66) d_Fits_firstUntrueOf_61 (by decide) (fun c => ?_) (fun c => ?_)
      · replace T := T.1 c
        refine ow_iinc 3 (v := (v2 + 1)) (ls2 := [(2, .int (v2 + 1)), (3, .int (I 11 v2.toNatClampNeg)), (0, .ref 54), (1, .ref o)]) d_Fits_firstUntrueOf_66 rfl rfl (by decide) rfl ?_
        refine ow_goto (tgt := 2) d_Fits_firstUntrueOf_69 (by decide) ?_
        refine ow_sub [2, 3, 0] rfl ?_
        exact T
      · replace T := T.2 c
        refine ow_iload_n 3 rfl d_Fits_firstUntrueOf_64 ?_
        exact ow_iret d_Fits_firstUntrueOf_65 rfl T
    · replace T := T.2 c
      refine ow_iconst (v := 1) (by decide) d_Fits_firstUntrueOf_37 ?_
      refine ow_goto (tgt := 42) d_Fits_firstUntrueOf_38 (by decide) ?_
      refine ow_callV (b := 55) (cq := 0) (As := [.ref o, .int ((I 11 v2.toNatClampNeg) >>> (1 &&& 31)), .int 1]) (rest := []) (d2 := d) d_Fits_firstUntrueOf_42 l_Fits_78 v_Course_run (show 55 < 85 by decide) rfl (by decide) rfl (Nat.le_of_ble_eq_true rfl) (Nat.le_refl _) ⟨Nat.le_refl _, Nat.le_refl _⟩ (ow_mono T ?_)
      rintro r h' ⟨I2, J2, R2, rfl, rfl, hR2, T⟩
      show ow_AW ow_Y0 (ow_Z Q) M_Fits_firstUntrueOf (d + 1) 0 0 45 [(3, .int (I 11 v2.toNatClampNeg)), (0, .ref 54), (1, .ref o), (2, .int v2)] [] (85, I2, J2, R2) 0 0
      refine ow_aload_n 1 rfl d_Fits_firstUntrueOf_45 ?_
      refine ow_gR (a := 55) 126 d_Fits_firstUntrueOf_46 rfl rfl (by decide) rfl ⟨rfl, hR2 54 1 (by decide)⟩ ?_
      refine ow_gI 100 d_Fits_firstUntrueOf_49 rfl rfl (by decide) rfl (Or.inl rfl) ?_
      refine ow_aload_n 1 rfl d_Fits_firstUntrueOf_52 ?_
      refine ow_gR (a := 2) 125 d_Fits_firstUntrueOf_53 rfl rfl (by decide) rfl ⟨rfl, hR2 54 0 (by decide)⟩ ?_
      refine ow_gR (a := 12) 64 d_Fits_firstUntrueOf_56 rfl rfl (by decide) rfl ⟨rfl, hR2 2 11 (by decide)⟩ ?_
      refine ow_iload_n 3 rfl d_Fits_firstUntrueOf_59 ?_
      obtain ⟨cI, T⟩ := T
      refine ow_hiaload d_Fits_firstUntrueOf_60 (by decide) rfl rfl cI ?_
      refine ow_icmp_eq (tgt := 66) d_Fits_firstUntrueOf_61 (by decide) (fun c => ?_) (fun c => ?_)
      · replace T := T.1 c
        refine ow_iinc 3 (v := (v2 + 1)) (ls2 := [(2, .int (v2 + 1)), (3, .int (I 11 v2.toNatClampNeg)), (0, .ref 54), (1, .ref o)]) d_Fits_firstUntrueOf_66 rfl rfl (by decide) rfl ?_
        refine ow_goto (tgt := 2) d_Fits_firstUntrueOf_69 (by decide) ?_
        refine ow_sub [2, 3, 0] rfl ?_
        exact T
      · replace T := T.2 c
        refine ow_iload_n 3 rfl d_Fits_firstUntrueOf_64 ?_
        exact ow_iret d_Fits_firstUntrueOf_65 rfl T
set_option maxRecDepth 4000 in
theorem t_Fits_firstUntrueOf {d : Nat} {I : Nat → Nat → Int32} {J : Nat → Nat → Int64} {R : Nat → Nat → Option Nat} {Q : Option Value → ow_H → Prop} {o : Nat} (ho : o ∈ [3, 15, 29, 33, 42, 47, 57]) (hR : ow_RF R) (T : ow_AW ow_Y0 (ow_Z Q) M_Fits_firstUntrueOf (d + 1) 0 0 2 [(0, .ref 54), (1, .ref o), (2, .int 0)] [] (85, I, J, R) 0 0) : ow_AM M_Fits_firstUntrueOf (d + 1) [.ref 54, .ref o] (85, I, J, R) Q := by
  refine ow_enter (by decide) (Nat.le_of_ble_eq_true rfl) ?_
  show ow_AW ow_Y0 (ow_Z Q) M_Fits_firstUntrueOf (d + 1) 0 0 0 [(0, .ref 54), (1, .ref o)] [] (85, I, J, R) 0 0
  obtain ⟨o_lt, o_kd, o_r3, o_r4, o_r5, o_k1, o_k2, o_k3, o_n1, o_n2, o_n3⟩ := ow_sc_ok o ho
  refine ow_iconst (v := 0) (by decide) d_Fits_firstUntrueOf_0 ?_
  refine ow_istore_n (ls2 := [(2, .int 0), (0, .ref 54), (1, .ref o)]) d_Fits_firstUntrueOf_1 (by decide) rfl ?_
  refine ow_sub [1, 2, 0] rfl ?_
  exact T
set_option maxRecDepth 4000 in
theorem t_Fits_mostLeftBy_7 {d : Nat} {I : Nat → Nat → Int32} {J : Nat → Nat → Int64} {R : Nat → Nat → Option Nat} {Q : Option Value → ow_H → Prop}  {v1 : Int32} {v2 : Int32} {v3 : Int32} {v4 : Int32}  (hR : ow_RF R) (T : (((I 54 4) ≤ v4 → Q (some (.int (if (((I 54 4) - v2) - v3) < (if v2 < v3 then v3 else v2) then (if v2 < v3 then v3 else v2) else (((I 54 4) - v2) - v3)))) (85, I, J, R)) ∧ (¬ (I 54 4) ≤ v4 → (vp_in v4 125 ∧ (ow_AM M_Fits_wear d [.ref 54, .int (I 61 v4.toNatClampNeg)] (85, I, J, R) (fun r h' => ∃ (I1 : Nat → Nat → Int32) (J1 : Nat → Nat → Int64) (R1 : Nat → Nat → Option Nat), r = none ∧ h' = (85, I1, J1, R1) ∧ ow_RF R1 ∧ (((v1 &&& 1) = 0 → (ow_AM M_Course_run d [.ref 55, .ref 57, .int (v1 >>> (1 &&& 31)), .int 0] (85, I1, J1, R1) (fun r h' => ∃ (I2 : Nat → Nat → Int32) (J2 : Nat → Nat → Int64) (R2 : Nat → Nat → Option Nat), r = none ∧ h' = (85, I2, J2, R2) ∧ ow_RF R2 ∧ ((¬ (I2 55 4) = 1 → ((¬ (I2 55 4) = 0 → ow_AW ow_Y0 (ow_Z Q) M_Fits_mostLeftBy (d + 1) 0 0 7 [(0, .ref 54), (1, .int v1), (2, .int v2), (3, .int v3), (4, .int (v4 + 1))] [] (85, I2, J2, R2) 0 0) ∧ ((I2 55 4) = 0 → ow_AW ow_Y0 (ow_Z Q) M_Fits_mostLeftBy (d + 1) 0 0 7 [(0, .ref 54), (1, .int v1), (2, .int v2), (3, .int (v3 + 1)), (4, .int (v4 + 1))] [] (85, I2, J2, R2) 0 0))) ∧ ((I2 55 4) = 1 → ow_AW ow_Y0 (ow_Z Q) M_Fits_mostLeftBy (d + 1) 0 0 7 [(0, .ref 54), (1, .int v1), (2, .int (v2 + 1)), (3, .int v3), (4, .int (v4 + 1))] [] (85, I2, J2, R2) 0 0))))) ∧ (¬ (v1 &&& 1) = 0 → (ow_AM M_Course_run d [.ref 55, .ref 57, .int (v1 >>> (1 &&& 31)), .int 1] (85, I1, J1, R1) (fun r h' => ∃ (I3 : Nat → Nat → Int32) (J3 : Nat → Nat → Int64) (R3 : Nat → Nat → Option Nat), r = none ∧ h' = (85, I3, J3, R3) ∧ ow_RF R3 ∧ ((¬ (I3 55 4) = 1 → ((¬ (I3 55 4) = 0 → ow_AW ow_Y0 (ow_Z Q) M_Fits_mostLeftBy (d + 1) 0 0 7 [(0, .ref 54), (1, .int v1), (2, .int v2), (3, .int v3), (4, .int (v4 + 1))] [] (85, I3, J3, R3) 0 0) ∧ ((I3 55 4) = 0 → ow_AW ow_Y0 (ow_Z Q) M_Fits_mostLeftBy (d + 1) 0 0 7 [(0, .ref 54), (1, .int v1), (2, .int v2), (3, .int (v3 + 1)), (4, .int (v4 + 1))] [] (85, I3, J3, R3) 0 0))) ∧ ((I3 55 4) = 1 → ow_AW ow_Y0 (ow_Z Q) M_Fits_mostLeftBy (d + 1) 0 0 7 [(0, .ref 54), (1, .int v1), (2, .int (v2 + 1)), (3, .int v3), (4, .int (v4 + 1))] [] (85, I3, J3, R3) 0 0)))))))))))) : ow_AW ow_Y0 (ow_Z Q) M_Fits_mostLeftBy (d + 1) 0 0 7 [(0, .ref 54), (1, .int v1), (2, .int v2), (3, .int v3), (4, .int v4)] [] (85, I, J, R) 0 0 := by
  refine ow_iload 4 rfl d_Fits_mostLeftBy_7 ?_
  refine ow_aload_n 0 rfl d_Fits_mostLeftBy_9 ?_
  refine ow_gI 130 d_Fits_mostLeftBy_10 rfl rfl (by decide) rfl (Or.inl rfl) ?_
  refine ow_icmp_ge (tgt := 88) d_Fits_mostLeftBy_13 (by decide) (fun c => ?_) (fun c => ?_)
  · replace T := T.1 c
    refine ow_aload_n 0 rfl d_Fits_mostLeftBy_88 ?_
    refine ow_gI 130 d_Fits_mostLeftBy_89 rfl rfl (by decide) rfl (Or.inl rfl) ?_
    refine ow_iload_n 2 rfl d_Fits_mostLeftBy_92 ?_
    refine ow_isub d_Fits_mostLeftBy_93 ?_
    refine ow_iload_n 3 rfl d_Fits_mostLeftBy_94 ?_
    refine ow_isub d_Fits_mostLeftBy_95 ?_
    refine ow_iload_n 2 rfl d_Fits_mostLeftBy_96 ?_
    refine ow_iload_n 3 rfl d_Fits_mostLeftBy_97 ?_
    refine ow_mmax d_Fits_mostLeftBy_98 l_Fits_88 (Nat.succ_le_succ (Nat.zero_le _)) (Nat.le_of_ble_eq_true rfl) ⟨Nat.le_refl _, Nat.le_refl _⟩ ?_
    refine ow_mmax d_Fits_mostLeftBy_101 l_Fits_88 (Nat.succ_le_succ (Nat.zero_le _)) (Nat.le_of_ble_eq_true rfl) ⟨Nat.le_refl _, Nat.le_refl _⟩ ?_
    exact ow_iret d_Fits_mostLeftBy_104 rfl T
  · replace T := T.2 c
    refine ow_aload_n 0 rfl d_Fits_mostLeftBy_16 ?_
    refine ow_aload_n 0 rfl d_Fits_mostLeftBy_17 ?_
    refine ow_gR (a := 61) 128 d_Fits_mostLeftBy_18 rfl rfl (by decide) rfl ⟨rfl, hR 54 3 (by decide)⟩ ?_
    refine ow_iload 4 rfl d_Fits_mostLeftBy_21 ?_
    obtain ⟨cI, T⟩ := T
    refine ow_hiaload d_Fits_mostLeftBy_23 (by decide) rfl rfl cI ?_
    refine ow_callV (b := 54) (cq := 1) (As := [.int (I 61 v4.toNatClampNeg)]) (rest := []) (d2 := d) d_Fits_mostLeftBy_24 l_Fits_49 v_Fits_wear (show 54 < 85 by decide) rfl (by decide) rfl (Nat.le_of_ble_eq_true rfl) (Nat.le_refl _) ⟨Nat.le_refl _, Nat.le_refl _⟩ (ow_mono T ?_)
    rintro r h' ⟨I1, J1, R1, rfl, rfl, hR1, T⟩
    show ow_AW ow_Y0 (ow_Z Q) M_Fits_mostLeftBy (d + 1) 0 0 27 [(0, .ref 54), (1, .int v1), (2, .int v2), (3, .int v3), (4, .int v4)] [] (85, I1, J1, R1) 0 0
    refine ow_aload_n 0 rfl d_Fits_mostLeftBy_27 ?_
    refine ow_gR (a := 55) 126 d_Fits_mostLeftBy_28 rfl rfl (by decide) rfl ⟨rfl, hR1 54 1 (by decide)⟩ ?_
    refine ow_aload_n 0 rfl d_Fits_mostLeftBy_31 ?_
    refine ow_gR (a := 57) 127 d_Fits_mostLeftBy_32 rfl rfl (by decide) rfl ⟨rfl, hR1 54 2 (by decide)⟩ ?_
    refine ow_iload_n 1 rfl d_Fits_mostLeftBy_35 ?_
    refine ow_iconst (v := 1) (by decide) d_Fits_mostLeftBy_36 ?_
    refine ow_ishr d_Fits_mostLeftBy_37 ?_
    refine ow_iload_n 1 rfl d_Fits_mostLeftBy_38 ?_
    refine ow_iconst (v := 1) (by decide) d_Fits_mostLeftBy_39 ?_
    refine ow_iand d_Fits_mostLeftBy_40 ?_
    refine ow_if_eq (tgt := 48) d_Fits_mostLeftBy_41 (by decide) (fun c => ?_) (fun c => ?_)
    · replace T := T.1 c
      refine ow_iconst (v := 0) (by decide) d_Fits_mostLeftBy_48 ?_
      refine ow_callV (b := 55) (cq := 0) (As := [.ref 57, .int (v1 >>> (1 &&& 31)), .int 0]) (rest := []) (d2 := d) d_Fits_mostLeftBy_49 l_Fits_78 v_Course_run (show 55 < 85 by decide) rfl (by decide) rfl (Nat.le_of_ble_eq_true rfl) (Nat.le_refl _) ⟨Nat.le_refl _, Nat.le_refl _⟩ (ow_mono T ?_)
      rintro r h' ⟨I2, J2, R2, rfl, rfl, hR2, T⟩
      show ow_AW ow_Y0 (ow_Z Q) M_Fits_mostLeftBy (d + 1) 0 0 52 [(0, .ref 54), (1, .int v1), (2, .int v2), (3, .int v3), (4, .int v4)] [] (85, I2, J2, R2) 0 0
      refine ow_aload_n 0 rfl d_Fits_mostLeftBy_52 ?_
      refine ow_gR (a := 55) 126 d_Fits_mostLeftBy_53 rfl rfl (by decide) rfl ⟨rfl, hR2 54 1 (by decide)⟩ ?_
      refine ow_gI 100 d_Fits_mostLeftBy_56 rfl rfl (by decide) rfl (Or.inl rfl) ?_
      refine ow_iconst (v := 1) (by decide) d_Fits_mostLeftBy_59 ?_
      refine ow_icmp_ne (tgt := 69) d_Fits_mostLeftBy_60 (by decide) (fun c => ?_) (fun c => ?_)
      · replace T := T.1 c
        refine ow_aload_n 0 rfl d_Fits_mostLeftBy_69 ?_
        refine ow_gR (a := 55) 126 d_Fits_mostLeftBy_70 rfl rfl (by decide) rfl ⟨rfl, hR2 54 1 (by decide)⟩ ?_
        refine ow_gI 100 d_Fits_mostLeftBy_73 rfl rfl (by decide) rfl (Or.inl rfl) ?_
        refine ow_if_ne (tgt := 82) d_Fits_mostLeftBy_76 (by decide) (fun c => ?_) (fun c => ?_)
        · replace T := T.1 c
          refine ow_iinc 4 (v := (v4 + 1)) (ls2 := [(4, .int (v4 + 1)), (0, .ref 54), (1, .int v1), (2, .int v2), (3, .int v3)]) d_Fits_mostLeftBy_82 rfl rfl (by decide) rfl ?_
          refine ow_goto (tgt := 7) d_Fits_mostLeftBy_85 (by decide) ?_
          refine ow_sub [1, 2, 3, 4, 0] rfl ?_
          exact T
        · replace T := T.2 c
          refine ow_iinc 3 (v := (v3 + 1)) (ls2 := [(3, .int (v3 + 1)), (0, .ref 54), (1, .int v1), (2, .int v2), (4, .int v4)]) d_Fits_mostLeftBy_79 rfl rfl (by decide) rfl ?_
          refine ow_iinc 4 (v := (v4 + 1)) (ls2 := [(4, .int (v4 + 1)), (3, .int (v3 + 1)), (0, .ref 54), (1, .int v1), (2, .int v2)]) d_Fits_mostLeftBy_82 rfl rfl (by decide) rfl ?_
          refine ow_goto (tgt := 7) d_Fits_mostLeftBy_85 (by decide) ?_
          refine ow_sub [2, 3, 4, 1, 0] rfl ?_
          exact T
      · replace T := T.2 c
        refine ow_iinc 2 (v := (v2 + 1)) (ls2 := [(2, .int (v2 + 1)), (0, .ref 54), (1, .int v1), (3, .int v3), (4, .int v4)]) d_Fits_mostLeftBy_63 rfl rfl (by decide) rfl ?_
        refine ow_goto (tgt := 82) d_Fits_mostLeftBy_66 (by decide) ?_
        refine ow_iinc 4 (v := (v4 + 1)) (ls2 := [(4, .int (v4 + 1)), (2, .int (v2 + 1)), (0, .ref 54), (1, .int v1), (3, .int v3)]) d_Fits_mostLeftBy_82 rfl rfl (by decide) rfl ?_
        refine ow_goto (tgt := 7) d_Fits_mostLeftBy_85 (by decide) ?_
        refine ow_sub [2, 3, 1, 4, 0] rfl ?_
        exact T
    · replace T := T.2 c
      refine ow_iconst (v := 1) (by decide) d_Fits_mostLeftBy_44 ?_
      refine ow_goto (tgt := 49) d_Fits_mostLeftBy_45 (by decide) ?_
      refine ow_callV (b := 55) (cq := 0) (As := [.ref 57, .int (v1 >>> (1 &&& 31)), .int 1]) (rest := []) (d2 := d) d_Fits_mostLeftBy_49 l_Fits_78 v_Course_run (show 55 < 85 by decide) rfl (by decide) rfl (Nat.le_of_ble_eq_true rfl) (Nat.le_refl _) ⟨Nat.le_refl _, Nat.le_refl _⟩ (ow_mono T ?_)
      rintro r h' ⟨I3, J3, R3, rfl, rfl, hR3, T⟩
      show ow_AW ow_Y0 (ow_Z Q) M_Fits_mostLeftBy (d + 1) 0 0 52 [(0, .ref 54), (1, .int v1), (2, .int v2), (3, .int v3), (4, .int v4)] [] (85, I3, J3, R3) 0 0
      refine ow_aload_n 0 rfl d_Fits_mostLeftBy_52 ?_
      refine ow_gR (a := 55) 126 d_Fits_mostLeftBy_53 rfl rfl (by decide) rfl ⟨rfl, hR3 54 1 (by decide)⟩ ?_
      refine ow_gI 100 d_Fits_mostLeftBy_56 rfl rfl (by decide) rfl (Or.inl rfl) ?_
      refine ow_iconst (v := 1) (by decide) d_Fits_mostLeftBy_59 ?_
      refine ow_icmp_ne (tgt := 69) d_Fits_mostLeftBy_60 (by decide) (fun c => ?_) (fun c => ?_)
      · replace T := T.1 c
        refine ow_aload_n 0 rfl d_Fits_mostLeftBy_69 ?_
        refine ow_gR (a := 55) 126 d_Fits_mostLeftBy_70 rfl rfl (by decide) rfl ⟨rfl, hR3 54 1 (by decide)⟩ ?_
        refine ow_gI 100 d_Fits_mostLeftBy_73 rfl rfl (by decide) rfl (Or.inl rfl) ?_
        refine ow_if_ne (tgt := 82) d_Fits_mostLeftBy_76 (by decide) (fun c => ?_) (fun c => ?_)
        · replace T := T.1 c
          refine ow_iinc 4 (v := (v4 + 1)) (ls2 := [(4, .int (v4 + 1)), (0, .ref 54), (1, .int v1), (2, .int v2), (3, .int v3)]) d_Fits_mostLeftBy_82 rfl rfl (by decide) rfl ?_
          refine ow_goto (tgt := 7) d_Fits_mostLeftBy_85 (by decide) ?_
          refine ow_sub [1, 2, 3, 4, 0] rfl ?_
          exact T
        · replace T := T.2 c
          refine ow_iinc 3 (v := (v3 + 1)) (ls2 := [(3, .int (v3 + 1)), (0, .ref 54), (1, .int v1), (2, .int v2), (4, .int v4)]) d_Fits_mostLeftBy_79 rfl rfl (by decide) rfl ?_
          refine ow_iinc 4 (v := (v4 + 1)) (ls2 := [(4, .int (v4 + 1)), (3, .int (v3 + 1)), (0, .ref 54), (1, .int v1), (2, .int v2)]) d_Fits_mostLeftBy_82 rfl rfl (by decide) rfl ?_
          refine ow_goto (tgt := 7) d_Fits_mostLeftBy_85 (by decide) ?_
          refine ow_sub [2, 3, 4, 1, 0] rfl ?_
          exact T
      · replace T := T.2 c
        refine ow_iinc 2 (v := (v2 + 1)) (ls2 := [(2, .int (v2 + 1)), (0, .ref 54), (1, .int v1), (3, .int v3), (4, .int v4)]) d_Fits_mostLeftBy_63 rfl rfl (by decide) rfl ?_
        refine ow_goto (tgt := 82) d_Fits_mostLeftBy_66 (by decide) ?_
        refine ow_iinc 4 (v := (v4 + 1)) (ls2 := [(4, .int (v4 + 1)), (2, .int (v2 + 1)), (0, .ref 54), (1, .int v1), (3, .int v3)]) d_Fits_mostLeftBy_82 rfl rfl (by decide) rfl ?_
        refine ow_goto (tgt := 7) d_Fits_mostLeftBy_85 (by decide) ?_
        refine ow_sub [2, 3, 1, 4, 0] rfl ?_
        exact T
set_option maxRecDepth 4000 in
theorem t_Fits_mostLeftBy {d : Nat} {I : Nat → Nat → Int32} {J : Nat → Nat → Int64} {R : Nat → Nat → Option Nat} {Q : Option Value → ow_H → Prop} {p1 : Int32}  (hR : ow_RF R) (T : ow_AW ow_Y0 (ow_Z Q) M_Fits_mostLeftBy (d + 1) 0 0 7 [(0, .ref 54), (1, .int p1), (2, .int 0), (3, .int 0), (4, .int 0)] [] (85, I, J, R) 0 0) : ow_AM M_Fits_mostLeftBy (d + 1) [.ref 54, .int p1] (85, I, J, R) Q := by
  refine ow_enter (by decide) (Nat.le_of_ble_eq_true rfl) ?_
  show ow_AW ow_Y0 (ow_Z Q) M_Fits_mostLeftBy (d + 1) 0 0 0 [(0, .ref 54), (1, .int p1)] [] (85, I, J, R) 0 0
  refine ow_iconst (v := 0) (by decide) d_Fits_mostLeftBy_0 ?_
  refine ow_istore_n (ls2 := [(2, .int 0), (0, .ref 54), (1, .int p1)]) d_Fits_mostLeftBy_1 (by decide) rfl ?_
  refine ow_iconst (v := 0) (by decide) d_Fits_mostLeftBy_2 ?_
  refine ow_istore_n (ls2 := [(3, .int 0), (2, .int 0), (0, .ref 54), (1, .int p1)]) d_Fits_mostLeftBy_3 (by decide) rfl ?_
  refine ow_iconst (v := 0) (by decide) d_Fits_mostLeftBy_4 ?_
  refine ow_istore (ls2 := [(4, .int 0), (3, .int 0), (2, .int 0), (0, .ref 54), (1, .int p1)]) d_Fits_mostLeftBy_5 (by decide) rfl ?_
  refine ow_sub [3, 4, 2, 1, 0] rfl ?_
  exact T
set_option maxRecDepth 4000 in
theorem t_Fits_wear_12 {d : Nat} {I : Nat → Nat → Int32} {J : Nat → Nat → Int64} {R : Nat → Nat → Option Nat} {Q : Option Value → ow_H → Prop}  {v2 : Int32} {v3 : Int32}  (hR : ow_RF R) (T : ((v3 < 0 → Q none (85, I, J, R)) ∧ (¬ v3 < 0 → (vp_in v3 3 ∧ (ow_AM M_Scene_has d [.ref 57, .int (I 10 v3.toNatClampNeg)] (85, I, J, R) (fun r h' => ∃ (r1 : Int32) (I1 : Nat → Nat → Int32) (J1 : Nat → Nat → Int64) (R1 : Nat → Nat → Option Nat), r = some (.int r1) ∧ h' = (85, I1, J1, R1) ∧ ow_RF R1 ∧ ((r1 = 0 → ow_AW ow_Y0 (ow_Z Q) M_Fits_wear (d + 1) 0 0 12 [(0, .ref 54), (2, .int (v2 / 5)), (3, .int (v3 + (-1)))] [] (85, I1, J1, R1) 0 0) ∧ (¬ r1 = 0 → (vp_in (I 10 v3.toNatClampNeg) 6 ∧ (∀ (I2 : Nat → Nat → Int32), I2 = ow_u I1 58 ((I 10 v3.toNatClampNeg).toNatClampNeg) (v2 - v2 / 5 * 5) → ow_AW ow_Y0 (ow_Z Q) M_Fits_wear (d + 1) 0 0 12 [(0, .ref 54), (2, .int (v2 / 5)), (3, .int (v3 + (-1)))] [] (85, I2, J1, R1) 0 0)))))))))) : ow_AW ow_Y0 (ow_Z Q) M_Fits_wear (d + 1) 0 0 12 [(0, .ref 54), (2, .int v2), (3, .int v3)] [] (85, I, J, R) 0 0 := by
  refine ow_iload_n 2 rfl d_Fits_wear_12 ?_
  refine ow_if_lt (tgt := 62) d_Fits_wear_13 (by decide) (fun c => ?_) (fun c => ?_)
  · replace T := T.1 c
    exact ow_vret d_Fits_wear_62 rfl T
  · replace T := T.2 c
    refine ow_aload_n 0 rfl d_Fits_wear_16 ?_
    refine ow_gR (a := 2) 125 d_Fits_wear_17 rfl rfl (by decide) rfl ⟨rfl, hR 54 0 (by decide)⟩ ?_
    refine ow_gR (a := 10) 56 d_Fits_wear_20 rfl rfl (by decide) rfl ⟨rfl, hR 2 8 (by decide)⟩ ?_
    refine ow_iload_n 2 rfl d_Fits_wear_23 ?_
    obtain ⟨cI, T⟩ := T
    refine ow_hiaload d_Fits_wear_24 (by decide) rfl rfl cI ?_
    refine ow_istore (ls2 := [(4, .int (I 10 v3.toNatClampNeg)), (0, .ref 54), (2, .int v2), (3, .int v3)]) d_Fits_wear_25 (by decide) rfl ?_
    refine ow_aload_n 1 rfl d_Fits_wear_27 ?_
    refine ow_gR (a := 57) 127 d_Fits_wear_28 rfl rfl (by decide) rfl ⟨rfl, hR 54 2 (by decide)⟩ ?_
    refine ow_iload 0 rfl d_Fits_wear_31 ?_
    refine ow_callV (b := 57) (cq := 4) (As := [.int (I 10 v3.toNatClampNeg)]) (rest := []) (d2 := d) d_Fits_wear_33 l_Fits_96 v_Scene_has (show 57 < 85 by decide) rfl (by decide) rfl (Nat.le_of_ble_eq_true rfl) (Nat.le_refl _) ⟨Nat.le_refl _, Nat.le_refl _⟩ (ow_mono T ?_)
    rintro r h' ⟨r1, I1, J1, R1, rfl, rfl, hR1, T⟩
    show ow_AW ow_Y0 (ow_Z Q) M_Fits_wear (d + 1) 0 0 36 [(4, .int (I 10 v3.toNatClampNeg)), (0, .ref 54), (2, .int v2), (3, .int v3)] [.int r1] (85, I1, J1, R1) 0 0
    refine ow_if_eq (tgt := 52) d_Fits_wear_36 (by decide) (fun c => ?_) (fun c => ?_)
    · replace T := T.1 c
      refine ow_iload_n 2 rfl d_Fits_wear_52 ?_
      refine ow_iconst (v := 5) (by decide) d_Fits_wear_53 ?_
      refine ow_idiv (by decide) d_Fits_wear_54 ?_
      refine ow_istore_n (ls2 := [(2, .int (v2 / 5)), (4, .int (I 10 v3.toNatClampNeg)), (0, .ref 54), (3, .int v3)]) d_Fits_wear_55 (by decide) rfl ?_
      refine ow_iinc 3 (v := (v3 + (-1))) (ls2 := [(3, .int (v3 + (-1))), (2, .int (v2 / 5)), (4, .int (I 10 v3.toNatClampNeg)), (0, .ref 54)]) d_Fits_wear_56 rfl rfl (by decide) rfl ?_
      refine ow_goto (tgt := 12) d_Fits_wear_59 (by decide) ?_
      refine ow_sub [3, 1, 0] rfl ?_
      exact T
    · replace T := T.2 c
      refine ow_aload_n 1 rfl d_Fits_wear_39 ?_
      refine ow_gR (a := 57) 127 d_Fits_wear_40 rfl rfl (by decide) rfl ⟨rfl, hR1 54 2 (by decide)⟩ ?_
      refine ow_gR (a := 58) 15 d_Fits_wear_43 rfl rfl (by decide) rfl ⟨rfl, hR1 57 3 (by decide)⟩ ?_
      refine ow_iload 0 rfl d_Fits_wear_46 ?_
      refine ow_iload_n 2 rfl d_Fits_wear_48 ?_
      refine ow_iconst (v := 5) (by decide) d_Fits_wear_49 ?_
      refine ow_irem (by decide) d_Fits_wear_50 ?_
      obtain ⟨cI, T⟩ := T
      refine ow_hiastore d_Fits_wear_51 (by decide) rfl rfl cI ?_
      obtain ⟨I2, eI2⟩ : ∃ uu, uu = ow_u I1 58 ((I 10 v3.toNatClampNeg).toNatClampNeg) (v2 - v2 / 5 * 5) := ⟨_, rfl⟩
      replace T := T I2 eI2
      rw [← eI2]
      refine ow_iload_n 2 rfl d_Fits_wear_52 ?_
      refine ow_iconst (v := 5) (by decide) d_Fits_wear_53 ?_
      refine ow_idiv (by decide) d_Fits_wear_54 ?_
      refine ow_istore_n (ls2 := [(2, .int (v2 / 5)), (4, .int (I 10 v3.toNatClampNeg)), (0, .ref 54), (3, .int v3)]) d_Fits_wear_55 (by decide) rfl ?_
      refine ow_iinc 3 (v := (v3 + (-1))) (ls2 := [(3, .int (v3 + (-1))), (2, .int (v2 / 5)), (4, .int (I 10 v3.toNatClampNeg)), (0, .ref 54)]) d_Fits_wear_56 rfl rfl (by decide) rfl ?_
      refine ow_goto (tgt := 12) d_Fits_wear_59 (by decide) ?_
      refine ow_sub [3, 1, 0] rfl ?_
      exact T
set_option maxRecDepth 4000 in
theorem t_Fits_wear {d : Nat} {I : Nat → Nat → Int32} {J : Nat → Nat → Int64} {R : Nat → Nat → Option Nat} {Q : Option Value → ow_H → Prop} {p1 : Int32}  (hR : ow_RF R) (T : ow_AW ow_Y0 (ow_Z Q) M_Fits_wear (d + 1) 0 0 12 [(0, .ref 54), (2, .int p1), (3, .int ((I 2 7) - 1))] [] (85, I, J, R) 0 0) : ow_AM M_Fits_wear (d + 1) [.ref 54, .int p1] (85, I, J, R) Q := by
  refine ow_enter (by decide) (Nat.le_of_ble_eq_true rfl) ?_
  show ow_AW ow_Y0 (ow_Z Q) M_Fits_wear (d + 1) 0 0 0 [(0, .ref 54), (1, .int p1)] [] (85, I, J, R) 0 0
  refine ow_iload_n 1 rfl d_Fits_wear_0 ?_
  refine ow_istore_n (ls2 := [(2, .int p1), (0, .ref 54), (1, .int p1)]) d_Fits_wear_1 (by decide) rfl ?_
  refine ow_aload_n 1 rfl d_Fits_wear_2 ?_
  refine ow_gR (a := 2) 125 d_Fits_wear_3 rfl rfl (by decide) rfl ⟨rfl, hR 54 0 (by decide)⟩ ?_
  refine ow_gI 51 d_Fits_wear_6 rfl rfl (by decide) rfl (Or.inl rfl) ?_
  refine ow_iconst (v := 1) (by decide) d_Fits_wear_9 ?_
  refine ow_isub d_Fits_wear_10 ?_
  refine ow_istore_n (ls2 := [(3, .int ((I 2 7) - 1)), (2, .int p1), (0, .ref 54), (1, .int p1)]) d_Fits_wear_11 (by decide) rfl ?_
  refine ow_sub [2, 1, 0] rfl ?_
  exact T
