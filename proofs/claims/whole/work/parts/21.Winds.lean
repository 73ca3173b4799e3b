/-! Own rows, by program: Winds_weigh Winds_weighAnswer Winds_blow -/
theorem d_Winds_weigh_0 : decode M_Winds_weigh.2.1 0 = .ok (.aload_n 0, 1) := by decide +kernel
theorem d_Winds_weigh_1 : decode M_Winds_weigh.2.1 1 = .ok (.iload_n 3, 1) := by decide +kernel
theorem d_Winds_weigh_2 : decode M_Winds_weigh.2.1 2 = .ok (.ifCond .eq 7, 3) := by decide +kernel
theorem d_Winds_weigh_5 : decode M_Winds_weigh.2.1 5 = .ok (.lconst 1, 1) := by decide +kernel
theorem d_Winds_weigh_6 : decode M_Winds_weigh.2.1 6 = .ok (.goto 4, 3) := by decide +kernel
theorem d_Winds_weigh_9 : decode M_Winds_weigh.2.1 9 = .ok (.lconst 0, 1) := by decide +kernel
theorem d_Winds_weigh_10 : decode M_Winds_weigh.2.1 10 = .ok (.putfield 22, 3) := by decide +kernel
theorem d_Winds_weigh_13 : decode M_Winds_weigh.2.1 13 = .ok (.aload_n 0, 1) := by decide +kernel
theorem d_Winds_weigh_14 : decode M_Winds_weigh.2.1 14 = .ok (.iload_n 3, 1) := by decide +kernel
theorem d_Winds_weigh_15 : decode M_Winds_weigh.2.1 15 = .ok (.ifCond .eq 7, 3) := by decide +kernel
theorem d_Winds_weigh_18 : decode M_Winds_weigh.2.1 18 = .ok (.lconst 0, 1) := by decide +kernel
theorem d_Winds_weigh_19 : decode M_Winds_weigh.2.1 19 = .ok (.goto 4, 3) := by decide +kernel
theorem d_Winds_weigh_22 : decode M_Winds_weigh.2.1 22 = .ok (.lconst 1, 1) := by decide +kernel
theorem d_Winds_weigh_23 : decode M_Winds_weigh.2.1 23 = .ok (.putfield 26, 3) := by decide +kernel
theorem d_Winds_weigh_26 : decode M_Winds_weigh.2.1 26 = .ok (.aload_n 0, 1) := by decide +kernel
theorem d_Winds_weigh_27 : decode M_Winds_weigh.2.1 27 = .ok (.lconst 1, 1) := by decide +kernel
theorem d_Winds_weigh_28 : decode M_Winds_weigh.2.1 28 = .ok (.putfield 29, 3) := by decide +kernel
theorem d_Winds_weigh_31 : decode M_Winds_weigh.2.1 31 = .ok (.aload_n 0, 1) := by decide +kernel
theorem d_Winds_weigh_32 : decode M_Winds_weigh.2.1 32 = .ok (.getfield 12, 3) := by decide +kernel
theorem d_Winds_weigh_35 : decode M_Winds_weigh.2.1 35 = .ok (.aload_n 1, 1) := by decide +kernel
theorem d_Winds_weigh_36 : decode M_Winds_weigh.2.1 36 = .ok (.iload_n 2, 1) := by decide +kernel
theorem d_Winds_weigh_37 : decode M_Winds_weigh.2.1 37 = .ok (.iload_n 3, 1) := by decide +kernel
theorem d_Winds_weigh_38 : decode M_Winds_weigh.2.1 38 = .ok (.invokevirtual 32, 3) := by decide +kernel
theorem d_Winds_weigh_41 : decode M_Winds_weigh.2.1 41 = .ok (.aload_n 0, 1) := by decide +kernel
theorem d_Winds_weigh_42 : decode M_Winds_weigh.2.1 42 = .ok (.getfield 12, 3) := by decide +kernel
theorem d_Winds_weigh_45 : decode M_Winds_weigh.2.1 45 = .ok (.getfield 36, 3) := by decide +kernel
theorem d_Winds_weigh_48 : decode M_Winds_weigh.2.1 48 = .ok (.bipush (-2), 2) := by decide +kernel
theorem d_Winds_weigh_50 : decode M_Winds_weigh.2.1 50 = .ok (.if_icmp .ne 14, 3) := by decide +kernel
theorem d_Winds_weigh_53 : decode M_Winds_weigh.2.1 53 = .ok (.aload_n 0, 1) := by decide +kernel
theorem d_Winds_weigh_54 : decode M_Winds_weigh.2.1 54 = .ok (.lconst 0, 1) := by decide +kernel
theorem d_Winds_weigh_55 : decode M_Winds_weigh.2.1 55 = .ok (.putfield 22, 3) := by decide +kernel
theorem d_Winds_weigh_58 : decode M_Winds_weigh.2.1 58 = .ok (.aload_n 0, 1) := by decide +kernel
theorem d_Winds_weigh_59 : decode M_Winds_weigh.2.1 59 = .ok (.lconst 0, 1) := by decide +kernel
theorem d_Winds_weigh_60 : decode M_Winds_weigh.2.1 60 = .ok (.putfield 26, 3) := by decide +kernel
theorem d_Winds_weigh_63 : decode M_Winds_weigh.2.1 63 = .ok (.return_, 1) := by decide +kernel
theorem d_Winds_weigh_64 : decode M_Winds_weigh.2.1 64 = .ok (.iconst 0, 1) := by decide +kernel
theorem d_Winds_weigh_65 : decode M_Winds_weigh.2.1 65 = .ok (.istore 4, 2) := by decide +kernel
theorem d_Winds_weigh_67 : decode M_Winds_weigh.2.1 67 = .ok (.iload 4, 2) := by decide +kernel
theorem d_Winds_weigh_69 : decode M_Winds_weigh.2.1 69 = .ok (.aload_n 0, 1) := by decide +kernel
theorem d_Winds_weigh_70 : decode M_Winds_weigh.2.1 70 = .ok (.getfield 12, 3) := by decide +kernel
theorem d_Winds_weigh_73 : decode M_Winds_weigh.2.1 73 = .ok (.getfield 40, 3) := by decide +kernel
theorem d_Winds_weigh_76 : decode M_Winds_weigh.2.1 76 = .ok (.if_icmp .ge 24, 3) := by decide +kernel
theorem d_Winds_weigh_79 : decode M_Winds_weigh.2.1 79 = .ok (.aload_n 0, 1) := by decide +kernel
theorem d_Winds_weigh_80 : decode M_Winds_weigh.2.1 80 = .ok (.aload_n 1, 1) := by decide +kernel
theorem d_Winds_weigh_81 : decode M_Winds_weigh.2.1 81 = .ok (.aload_n 0, 1) := by decide +kernel
theorem d_Winds_weigh_82 : decode M_Winds_weigh.2.1 82 = .ok (.getfield 12, 3) := by decide +kernel
theorem d_Winds_weigh_85 : decode M_Winds_weigh.2.1 85 = .ok (.getfield 43, 3) := by decide +kernel
theorem d_Winds_weigh_88 : decode M_Winds_weigh.2.1 88 = .ok (.iload 4, 2) := by decide +kernel
theorem d_Winds_weigh_90 : decode M_Winds_weigh.2.1 90 = .ok (.iaload, 1) := by decide +kernel
theorem d_Winds_weigh_91 : decode M_Winds_weigh.2.1 91 = .ok (.invokevirtual 47, 3) := by decide +kernel
theorem d_Winds_weigh_94 : decode M_Winds_weigh.2.1 94 = .ok (.iinc 4 1, 3) := by decide +kernel
theorem d_Winds_weigh_97 : decode M_Winds_weigh.2.1 97 = .ok (.goto (-30), 3) := by decide +kernel
theorem d_Winds_weigh_100 : decode M_Winds_weigh.2.1 100 = .ok (.return_, 1) := by decide +kernel
theorem d_Winds_weighAnswer_0 : decode M_Winds_weighAnswer.2.1 0 = .ok (.lconst 0, 1) := by decide +kernel
theorem d_Winds_weighAnswer_1 : decode M_Winds_weighAnswer.2.1 1 = .ok (.lstore_n 3, 1) := by decide +kernel
theorem d_Winds_weighAnswer_2 : decode M_Winds_weighAnswer.2.1 2 = .ok (.aload_n 1, 1) := by decide +kernel
theorem d_Winds_weighAnswer_3 : decode M_Winds_weighAnswer.2.1 3 = .ok (.iload_n 2, 1) := by decide +kernel
theorem d_Winds_weighAnswer_4 : decode M_Winds_weighAnswer.2.1 4 = .ok (.iconst 1, 1) := by decide +kernel
theorem d_Winds_weighAnswer_5 : decode M_Winds_weighAnswer.2.1 5 = .ok (.invokevirtual 51, 3) := by decide +kernel
theorem d_Winds_weighAnswer_8 : decode M_Winds_weighAnswer.2.1 8 = .ok (.iconst 1, 1) := by decide +kernel
theorem d_Winds_weighAnswer_9 : decode M_Winds_weighAnswer.2.1 9 = .ok (.if_icmp .ne 10, 3) := by decide +kernel
theorem d_Winds_weighAnswer_12 : decode M_Winds_weighAnswer.2.1 12 = .ok (.lload_n 3, 1) := by decide +kernel
theorem d_Winds_weighAnswer_13 : decode M_Winds_weighAnswer.2.1 13 = .ok (.aload_n 0, 1) := by decide +kernel
theorem d_Winds_weighAnswer_14 : decode M_Winds_weighAnswer.2.1 14 = .ok (.getfield 22, 3) := by decide +kernel
theorem d_Winds_weighAnswer_17 : decode M_Winds_weighAnswer.2.1 17 = .ok (.ladd, 1) := by decide +kernel
theorem d_Winds_weighAnswer_18 : decode M_Winds_weighAnswer.2.1 18 = .ok (.lstore_n 3, 1) := by decide +kernel
theorem d_Winds_weighAnswer_19 : decode M_Winds_weighAnswer.2.1 19 = .ok (.aload_n 1, 1) := by decide +kernel
theorem d_Winds_weighAnswer_20 : decode M_Winds_weighAnswer.2.1 20 = .ok (.iload_n 2, 1) := by decide +kernel
theorem d_Winds_weighAnswer_21 : decode M_Winds_weighAnswer.2.1 21 = .ok (.iconst 0, 1) := by decide +kernel
theorem d_Winds_weighAnswer_22 : decode M_Winds_weighAnswer.2.1 22 = .ok (.invokevirtual 51, 3) := by decide +kernel
theorem d_Winds_weighAnswer_25 : decode M_Winds_weighAnswer.2.1 25 = .ok (.iconst 1, 1) := by decide +kernel
theorem d_Winds_weighAnswer_26 : decode M_Winds_weighAnswer.2.1 26 = .ok (.if_icmp .ne 10, 3) := by decide +kernel
theorem d_Winds_weighAnswer_29 : decode M_Winds_weighAnswer.2.1 29 = .ok (.lload_n 3, 1) := by decide +kernel
theorem d_Winds_weighAnswer_30 : decode M_Winds_weighAnswer.2.1 30 = .ok (.aload_n 0, 1) := by decide +kernel
theorem d_Winds_weighAnswer_31 : decode M_Winds_weighAnswer.2.1 31 = .ok (.getfield 26, 3) := by decide +kernel
theorem d_Winds_weighAnswer_34 : decode M_Winds_weighAnswer.2.1 34 = .ok (.ladd, 1) := by decide +kernel
theorem d_Winds_weighAnswer_35 : decode M_Winds_weighAnswer.2.1 35 = .ok (.lstore_n 3, 1) := by decide +kernel
theorem d_Winds_weighAnswer_36 : decode M_Winds_weighAnswer.2.1 36 = .ok (.aload_n 0, 1) := by decide +kernel
theorem d_Winds_weighAnswer_37 : decode M_Winds_weighAnswer.2.1 37 = .ok (.getfield 22, 3) := by decide +kernel
theorem d_Winds_weighAnswer_40 : decode M_Winds_weighAnswer.2.1 40 = .ok (.aload_n 0, 1) := by decide +kernel
theorem d_Winds_weighAnswer_41 : decode M_Winds_weighAnswer.2.1 41 = .ok (.getfield 26, 3) := by decide +kernel
theorem d_Winds_weighAnswer_44 : decode M_Winds_weighAnswer.2.1 44 = .ok (.ladd, 1) := by decide +kernel
theorem d_Winds_weighAnswer_45 : decode M_Winds_weighAnswer.2.1 45 = .ok (.lload_n 3, 1) := by decide +kernel
theorem d_Winds_weighAnswer_46 : decode M_Winds_weighAnswer.2.1 46 = .ok (.lsub, 1) := by decide +kernel
theorem d_Winds_weighAnswer_47 : decode M_Winds_weighAnswer.2.1 47 = .ok (.lstore 5, 2) := by decide +kernel
theorem d_Winds_weighAnswer_49 : decode M_Winds_weighAnswer.2.1 49 = .ok (.aload_n 0, 1) := by decide +kernel
theorem d_Winds_weighAnswer_50 : decode M_Winds_weighAnswer.2.1 50 = .ok (.lload_n 3, 1) := by decide +kernel
theorem d_Winds_weighAnswer_51 : decode M_Winds_weighAnswer.2.1 51 = .ok (.bipush 100, 2) := by decide +kernel
theorem d_Winds_weighAnswer_53 : decode M_Winds_weighAnswer.2.1 53 = .ok (.aload_n 0, 1) := by decide +kernel
theorem d_Winds_weighAnswer_54 : decode M_Winds_weighAnswer.2.1 54 = .ok (.getfield 18, 3) := by decide +kernel
theorem d_Winds_weighAnswer_57 : decode M_Winds_weighAnswer.2.1 57 = .ok (.getfield 57, 3) := by decide +kernel
theorem d_Winds_weighAnswer_60 : decode M_Winds_weighAnswer.2.1 60 = .ok (.isub, 1) := by decide +kernel
theorem d_Winds_weighAnswer_61 : decode M_Winds_weighAnswer.2.1 61 = .ok (.i2l, 1) := by decide +kernel
theorem d_Winds_weighAnswer_62 : decode M_Winds_weighAnswer.2.1 62 = .ok (.lmul, 1) := by decide +kernel
theorem d_Winds_weighAnswer_63 : decode M_Winds_weighAnswer.2.1 63 = .ok (.lload 5, 2) := by decide +kernel
theorem d_Winds_weighAnswer_65 : decode M_Winds_weighAnswer.2.1 65 = .ok (.aload_n 0, 1) := by decide +kernel
theorem d_Winds_weighAnswer_66 : decode M_Winds_weighAnswer.2.1 66 = .ok (.getfield 18, 3) := by decide +kernel
theorem d_Winds_weighAnswer_69 : decode M_Winds_weighAnswer.2.1 69 = .ok (.getfield 57, 3) := by decide +kernel
theorem d_Winds_weighAnswer_72 : decode M_Winds_weighAnswer.2.1 72 = .ok (.i2l, 1) := by decide +kernel
theorem d_Winds_weighAnswer_73 : decode M_Winds_weighAnswer.2.1 73 = .ok (.lmul, 1) := by decide +kernel
theorem d_Winds_weighAnswer_74 : decode M_Winds_weighAnswer.2.1 74 = .ok (.ladd, 1) := by decide +kernel
theorem d_Winds_weighAnswer_75 : decode M_Winds_weighAnswer.2.1 75 = .ok (.putfield 22, 3) := by decide +kernel
theorem d_Winds_weighAnswer_78 : decode M_Winds_weighAnswer.2.1 78 = .ok (.aload_n 0, 1) := by decide +kernel
theorem d_Winds_weighAnswer_79 : decode M_Winds_weighAnswer.2.1 79 = .ok (.lload 5, 2) := by decide +kernel
theorem d_Winds_weighAnswer_81 : decode M_Winds_weighAnswer.2.1 81 = .ok (.bipush 100, 2) := by decide +kernel
theorem d_Winds_weighAnswer_83 : decode M_Winds_weighAnswer.2.1 83 = .ok (.aload_n 0, 1) := by decide +kernel
theorem d_Winds_weighAnswer_84 : decode M_Winds_weighAnswer.2.1 84 = .ok (.getfield 18, 3) := by decide +kernel
theorem d_Winds_weighAnswer_87 : decode M_Winds_weighAnswer.2.1 87 = .ok (.getfield 57, 3) := by decide +kernel
theorem d_Winds_weighAnswer_90 : decode M_Winds_weighAnswer.2.1 90 = .ok (.isub, 1) := by decide +kernel
theorem d_Winds_weighAnswer_91 : decode M_Winds_weighAnswer.2.1 91 = .ok (.i2l, 1) := by decide +kernel
theorem d_Winds_weighAnswer_92 : decode M_Winds_weighAnswer.2.1 92 = .ok (.lmul, 1) := by decide +kernel
theorem d_Winds_weighAnswer_93 : decode M_Winds_weighAnswer.2.1 93 = .ok (.lload_n 3, 1) := by decide +kernel
theorem d_Winds_weighAnswer_94 : decode M_Winds_weighAnswer.2.1 94 = .ok (.aload_n 0, 1) := by decide +kernel
theorem d_Winds_weighAnswer_95 : decode M_Winds_weighAnswer.2.1 95 = .ok (.getfield 18, 3) := by decide +kernel
theorem d_Winds_weighAnswer_98 : decode M_Winds_weighAnswer.2.1 98 = .ok (.getfield 57, 3) := by decide +kernel
theorem d_Winds_weighAnswer_101 : decode M_Winds_weighAnswer.2.1 101 = .ok (.i2l, 1) := by decide +kernel
theorem d_Winds_weighAnswer_102 : decode M_Winds_weighAnswer.2.1 102 = .ok (.lmul, 1) := by decide +kernel
theorem d_Winds_weighAnswer_103 : decode M_Winds_weighAnswer.2.1 103 = .ok (.ladd, 1) := by decide +kernel
theorem d_Winds_weighAnswer_104 : decode M_Winds_weighAnswer.2.1 104 = .ok (.putfield 26, 3) := by decide +kernel
theorem d_Winds_weighAnswer_107 : decode M_Winds_weighAnswer.2.1 107 = .ok (.aload_n 0, 1) := by decide +kernel
theorem d_Winds_weighAnswer_108 : decode M_Winds_weighAnswer.2.1 108 = .ok (.dup, 1) := by decide +kernel
theorem d_Winds_weighAnswer_109 : decode M_Winds_weighAnswer.2.1 109 = .ok (.getfield 29, 3) := by decide +kernel
theorem d_Winds_weighAnswer_112 : decode M_Winds_weighAnswer.2.1 112 = .ok (.ldc2_w 62, 3) := by decide +kernel
theorem d_Winds_weighAnswer_115 : decode M_Winds_weighAnswer.2.1 115 = .ok (.lmul, 1) := by decide +kernel
theorem d_Winds_weighAnswer_116 : decode M_Winds_weighAnswer.2.1 116 = .ok (.putfield 29, 3) := by decide +kernel
theorem d_Winds_weighAnswer_119 : decode M_Winds_weighAnswer.2.1 119 = .ok (.return_, 1) := by decide +kernel
theorem d_Winds_blow_0 : decode M_Winds_blow.2.1 0 = .ok (.aload_n 0, 1) := by decide +kernel
theorem d_Winds_blow_1 : decode M_Winds_blow.2.1 1 = .ok (.getfield 12, 3) := by decide +kernel
theorem d_Winds_blow_4 : decode M_Winds_blow.2.1 4 = .ok (.aload_n 1, 1) := by decide +kernel
theorem d_Winds_blow_5 : decode M_Winds_blow.2.1 5 = .ok (.iload_n 2, 1) := by decide +kernel
theorem d_Winds_blow_6 : decode M_Winds_blow.2.1 6 = .ok (.iload_n 3, 1) := by decide +kernel
theorem d_Winds_blow_7 : decode M_Winds_blow.2.1 7 = .ok (.invokevirtual 32, 3) := by decide +kernel
theorem d_Winds_blow_10 : decode M_Winds_blow.2.1 10 = .ok (.aload_n 0, 1) := by decide +kernel
theorem d_Winds_blow_11 : decode M_Winds_blow.2.1 11 = .ok (.getfield 12, 3) := by decide +kernel
theorem d_Winds_blow_14 : decode M_Winds_blow.2.1 14 = .ok (.getfield 36, 3) := by decide +kernel
theorem d_Winds_blow_17 : decode M_Winds_blow.2.1 17 = .ok (.bipush (-2), 2) := by decide +kernel
theorem d_Winds_blow_19 : decode M_Winds_blow.2.1 19 = .ok (.if_icmp .ne 6, 3) := by decide +kernel
theorem d_Winds_blow_22 : decode M_Winds_blow.2.1 22 = .ok (.bipush (-2), 2) := by decide +kernel
theorem d_Winds_blow_24 : decode M_Winds_blow.2.1 24 = .ok (.ireturn, 1) := by decide +kernel
theorem d_Winds_blow_25 : decode M_Winds_blow.2.1 25 = .ok (.iload_n 3, 1) := by decide +kernel
theorem d_Winds_blow_26 : decode M_Winds_blow.2.1 26 = .ok (.ifCond .eq 7, 3) := by decide +kernel
theorem d_Winds_blow_29 : decode M_Winds_blow.2.1 29 = .ok (.iconst 1, 1) := by decide +kernel
theorem d_Winds_blow_30 : decode M_Winds_blow.2.1 30 = .ok (.goto 4, 3) := by decide +kernel
theorem d_Winds_blow_33 : decode M_Winds_blow.2.1 33 = .ok (.iconst 0, 1) := by decide +kernel
theorem d_Winds_blow_34 : decode M_Winds_blow.2.1 34 = .ok (.istore 4, 2) := by decide +kernel
theorem d_Winds_blow_36 : decode M_Winds_blow.2.1 36 = .ok (.iconst 0, 1) := by decide +kernel
theorem d_Winds_blow_37 : decode M_Winds_blow.2.1 37 = .ok (.istore 5, 2) := by decide +kernel
theorem d_Winds_blow_39 : decode M_Winds_blow.2.1 39 = .ok (.iload 5, 2) := by decide +kernel
theorem d_Winds_blow_41 : decode M_Winds_blow.2.1 41 = .ok (.aload_n 0, 1) := by decide +kernel
theorem d_Winds_blow_42 : decode M_Winds_blow.2.1 42 = .ok (.getfield 12, 3) := by decide +kernel
theorem d_Winds_blow_45 : decode M_Winds_blow.2.1 45 = .ok (.getfield 40, 3) := by decide +kernel
theorem d_Winds_blow_48 : decode M_Winds_blow.2.1 48 = .ok (.if_icmp .ge 67, 3) := by decide +kernel
theorem d_Winds_blow_51 : decode M_Winds_blow.2.1 51 = .ok (.aload_n 1, 1) := by decide +kernel
theorem d_Winds_blow_52 : decode M_Winds_blow.2.1 52 = .ok (.aload_n 0, 1) := by decide +kernel
theorem d_Winds_blow_53 : decode M_Winds_blow.2.1 53 = .ok (.getfield 12, 3) := by decide +kernel
theorem d_Winds_blow_56 : decode M_Winds_blow.2.1 56 = .ok (.getfield 43, 3) := by decide +kernel
theorem d_Winds_blow_59 : decode M_Winds_blow.2.1 59 = .ok (.iload 5, 2) := by decide +kernel
theorem d_Winds_blow_61 : decode M_Winds_blow.2.1 61 = .ok (.iaload, 1) := by decide +kernel
theorem d_Winds_blow_62 : decode M_Winds_blow.2.1 62 = .ok (.iload 4, 2) := by decide +kernel
theorem d_Winds_blow_64 : decode M_Winds_blow.2.1 64 = .ok (.invokevirtual 51, 3) := by decide +kernel
theorem d_Winds_blow_67 : decode M_Winds_blow.2.1 67 = .ok (.istore 4, 2) := by decide +kernel
theorem d_Winds_blow_69 : decode M_Winds_blow.2.1 69 = .ok (.aload_n 0, 1) := by decide +kernel
theorem d_Winds_blow_70 : decode M_Winds_blow.2.1 70 = .ok (.bipush 75, 2) := by decide +kernel
theorem d_Winds_blow_72 : decode M_Winds_blow.2.1 72 = .ok (.aload_n 0, 1) := by decide +kernel
theorem d_Winds_blow_73 : decode M_Winds_blow.2.1 73 = .ok (.getfield 64, 3) := by decide +kernel
theorem d_Winds_blow_76 : decode M_Winds_blow.2.1 76 = .ok (.imul, 1) := by decide +kernel
theorem d_Winds_blow_77 : decode M_Winds_blow.2.1 77 = .ok (.bipush 74, 2) := by decide +kernel
theorem d_Winds_blow_79 : decode M_Winds_blow.2.1 79 = .ok (.iadd, 1) := by decide +kernel
theorem d_Winds_blow_80 : decode M_Winds_blow.2.1 80 = .ok (.ldc 67, 2) := by decide +kernel
theorem d_Winds_blow_82 : decode M_Winds_blow.2.1 82 = .ok (.irem, 1) := by decide +kernel
theorem d_Winds_blow_83 : decode M_Winds_blow.2.1 83 = .ok (.putfield 64, 3) := by decide +kernel
theorem d_Winds_blow_86 : decode M_Winds_blow.2.1 86 = .ok (.aload_n 0, 1) := by decide +kernel
theorem d_Winds_blow_87 : decode M_Winds_blow.2.1 87 = .ok (.getfield 64, 3) := by decide +kernel
theorem d_Winds_blow_90 : decode M_Winds_blow.2.1 90 = .ok (.bipush 100, 2) := by decide +kernel
theorem d_Winds_blow_92 : decode M_Winds_blow.2.1 92 = .ok (.irem, 1) := by decide +kernel
theorem d_Winds_blow_93 : decode M_Winds_blow.2.1 93 = .ok (.aload_n 0, 1) := by decide +kernel
theorem d_Winds_blow_94 : decode M_Winds_blow.2.1 94 = .ok (.getfield 18, 3) := by decide +kernel
theorem d_Winds_blow_97 : decode M_Winds_blow.2.1 97 = .ok (.getfield 57, 3) := by decide +kernel
theorem d_Winds_blow_100 : decode M_Winds_blow.2.1 100 = .ok (.if_icmp .ge 9, 3) := by decide +kernel
theorem d_Winds_blow_103 : decode M_Winds_blow.2.1 103 = .ok (.iconst 1, 1) := by decide +kernel
theorem d_Winds_blow_104 : decode M_Winds_blow.2.1 104 = .ok (.iload 4, 2) := by decide +kernel
theorem d_Winds_blow_106 : decode M_Winds_blow.2.1 106 = .ok (.isub, 1) := by decide +kernel
theorem d_Winds_blow_107 : decode M_Winds_blow.2.1 107 = .ok (.istore 4, 2) := by decide +kernel
theorem d_Winds_blow_109 : decode M_Winds_blow.2.1 109 = .ok (.iinc 5 1, 3) := by decide +kernel
theorem d_Winds_blow_112 : decode M_Winds_blow.2.1 112 = .ok (.goto (-73), 3) := by decide +kernel
theorem d_Winds_blow_115 : decode M_Winds_blow.2.1 115 = .ok (.iload 4, 2) := by decide +kernel
theorem d_Winds_blow_117 : decode M_Winds_blow.2.1 117 = .ok (.ireturn, 1) := by decide +kernel
set_option maxRecDepth 4000 in
theorem t_Winds_weigh_67 {d : Nat} {I : Nat → Nat → Int32} {J : Nat → Nat → Int64} {R : Nat → Nat → Option Nat} {Q : Option Value → ow_H → Prop}  {v4 : Int32}  (hR : ow_RF R) (T : (((I 64 1) ≤ v4 → Q none (85, I, J, R)) ∧ (¬ (I 64 1) ≤ v4 → (vp_in v4 6 ∧ (ow_AM M_Winds_weighAnswer d [.ref 63, .ref 29, .int (I 65 v4.toNatClampNeg)] (85, I, J, R) (fun r h' => ∃ (I23 : Nat → Nat → Int32) (J23 : Nat → Nat → Int64) (R23 : Nat → Nat → Option Nat), r = none ∧ h' = (85, I23, J23, R23) ∧ ow_RF R23 ∧ ow_AW ow_Y0 (ow_Z Q) M_Winds_weigh (d + 1) 0 0 67 [(0, .ref 63), (1, .ref 29), (4, .int (v4 + 1))] [] (85, I23, J23, R23) 0 0)))))) : ow_AW ow_Y0 (ow_Z Q) M_Winds_weigh (d + 1) 0 0 67 [(0, .ref 63), (1, .ref 29), (4, .int v4)] [] (85, I, J, R) 0 0 := by
  refine ow_iload 2 rfl d_Winds_weigh_67 ?_
  refine ow_aload_n 0 rfl d_Winds_weigh_69 ?_
  refine ow_gR (a := 64) 138 d_Winds_weigh_70 rfl rfl (by decide) rfl ⟨rfl, hR 63 1 (by decide)⟩ ?_
  refine ow_gI 90 d_Winds_weigh_73 rfl rfl (by decide) rfl (Or.inl rfl) ?_
  refine ow_icmp_ge (tgt := 100) d_Winds_weigh_76 (by decide) (fun c => ?_) (fun c => ?_)
  · replace T := T.1 c
    exact ow_vret d_Winds_weigh_100 rfl T
  · replace T := T.2 c
    refine ow_aload_n 0 rfl d_Winds_weigh_79 ?_
    refine ow_aload_n 1 rfl d_Winds_weigh_80 ?_
    refine ow_aload_n 0 rfl d_Winds_weigh_81 ?_
    refine ow_gR (a := 64) 138 d_Winds_weigh_82 rfl rfl (by decide) rfl ⟨rfl, hR 63 1 (by decide)⟩ ?_
    refine ow_gR (a := 65) 87 d_Winds_weigh_85 rfl rfl (by decide) rfl ⟨rfl, hR 64 0 (by decide)⟩ ?_
    refine ow_iload 2 rfl d_Winds_weigh_88 ?_
    obtain ⟨cI, T⟩ := T
    refine ow_hiaload d_Winds_weigh_90 (by decide) rfl rfl cI ?_
    refine ow_callV (b := 63) (cq := 10) (As := [.ref 29, .int (I 65 v4.toNatClampNeg)]) (rest := []) (d2 := d) d_Winds_weigh_91 l_Winds_47 v_Winds_weighAnswer (show 63 < 85 by decide) rfl (by decide) rfl (Nat.le_of_ble_eq_true rfl) (Nat.le_refl _) ⟨Nat.le_refl _, Nat.le_refl _⟩ (ow_mono T ?_)
    rintro r h' ⟨I23, J23, R23, rfl, rfl, hR23, T⟩
    show ow_AW ow_Y0 (ow_Z Q) M_Winds_weigh (d + 1) 0 0 94 [(0, .ref 63), (1, .ref 29), (4, .int v4)] [] (85, I23, J23, R23) 0 0
    refine ow_iinc 2 (v := (v4 + 1)) (ls2 := [(4, .int (v4 + 1)), (0, .ref 63), (1, .ref 29)]) d_Winds_weigh_94 rfl rfl (by decide) rfl ?_
    refine ow_goto (tgt := 67) d_Winds_weigh_97 (by decide) ?_
    refine ow_sub [1, 2, 0] rfl ?_
    exact T
set_option maxRecDepth 4000 in
theorem t_Winds_weigh {d : Nat} {I : Nat → Nat → Int32} {J : Nat → Nat → Int64} {R : Nat → Nat → Option Nat} {Q : Option Value → ow_H → Prop} {p1 : Int32} {p2 : Int32}  (hR : ow_RF R) (T : ((p2 = 0 → (∀ (J24 : Nat → Nat → Int64), J24 = ow_u J 63 3 0 → ((p2 = 0 → (∀ (J25 : Nat → Nat → Int64), J25 = ow_u J24 63 4 1 → (∀ (J26 : Nat → Nat → Int64), J26 = ow_u J25 63 5 1 → (ow_AM M_Course_run d [.ref 64, .ref 29, .int p1, .int p2] (85, I, J26, R) (fun r h' => ∃ (I27 : Nat → Nat → Int32) (J27 : Nat → Nat → Int64) (R27 : Nat → Nat → Option Nat), r = none ∧ h' = (85, I27, J27, R27) ∧ ow_RF R27 ∧ ((¬ (I27 64 4) = (-2) → ow_AW ow_Y0 (ow_Z Q) M_Winds_weigh (d + 1) 0 0 67 [(0, .ref 63), (1, .ref 29), (4, .int 0)] [] (85, I27, J27, R27) 0 0) ∧ ((I27 64 4) = (-2) → (∀ (J28 : Nat → Nat → Int64), J28 = ow_u J27 63 3 0 → (∀ (J29 : Nat → Nat → Int64), J29 = ow_u J28 63 4 0 → Q none (85, I27, J29, R27)))))))))) ∧ (¬ p2 = 0 → (∀ (J30 : Nat → Nat → Int64), J30 = ow_u J24 63 4 0 → (∀ (J31 : Nat → Nat → Int64), J31 = ow_u J30 63 5 1 → (ow_AM M_Course_run d [.ref 64, .ref 29, .int p1, .int p2] (85, I, J31, R) (fun r h' => ∃ (I32 : Nat → Nat → Int32) (J32 : Nat → Nat → Int64) (R32 : Nat → Nat → Option Nat), r = none ∧ h' = (85, I32, J32, R32) ∧ ow_RF R32 ∧ ((¬ (I32 64 4) = (-2) → ow_AW ow_Y0 (ow_Z Q) M_Winds_weigh (d + 1) 0 0 67 [(0, .ref 63), (1, .ref 29), (4, .int 0)] [] (85, I32, J32, R32) 0 0) ∧ ((I32 64 4) = (-2) → (∀ (J33 : Nat → Nat → Int64), J33 = ow_u J32 63 3 0 → (∀ (J34 : Nat → Nat → Int64), J34 = ow_u J33 63 4 0 → Q none (85, I32, J34, R32))))))))))))) ∧ (¬ p2 = 0 → (∀ (J35 : Nat → Nat → Int64), J35 = ow_u J 63 3 1 → ((p2 = 0 → (∀ (J36 : Nat → Nat → Int64), J36 = ow_u J35 63 4 1 → (∀ (J37 : Nat → Nat → Int64), J37 = ow_u J36 63 5 1 → (ow_AM M_Course_run d [.ref 64, .ref 29, .int p1, .int p2] (85, I, J37, R) (fun r h' => ∃ (I38 : Nat → Nat → Int32) (J38 : Nat → Nat → Int64) (R38 : Nat → Nat → Option Nat), r = none ∧ h' = (85, I38, J38, R38) ∧ ow_RF R38 ∧ ((¬ (I38 64 4) = (-2) → ow_AW ow_Y0 (ow_Z Q) M_Winds_weigh (d + 1) 0 0 67 [(0, .ref 63), (1, .ref 29), (4, .int 0)] [] (85, I38, J38, R38) 0 0) ∧ ((I38 64 4) = (-2) → (∀ (J39 : Nat → Nat → Int64), J39 = ow_u J38 63 3 0 → (∀ (J40 : Nat → Nat → Int64), J40 = ow_u J39 63 4 0 → Q none (85, I38, J40, R38)))))))))) ∧ (¬ p2 = 0 → (∀ (J41 : Nat → Nat → Int64), J41 = ow_u J35 63 4 0 → (∀ (J42 : Nat → Nat → Int64), J42 = ow_u J41 63 5 1 → (ow_AM M_Course_run d [.ref 64, .ref 29, .int p1, .int p2] (85, I, J42, R) (fun r h' => ∃ (I43 : Nat → Nat → Int32) (J43 : Nat → Nat → Int64) (R43 : Nat → Nat → Option Nat), r = none ∧ h' = (85, I43, J43, R43) ∧ ow_RF R43 ∧ ((¬ (I43 64 4) = (-2) → ow_AW ow_Y0 (ow_Z Q) M_Winds_weigh (d + 1) 0 0 67 [(0, .ref 63), (1, .ref 29), (4, .int 0)] [] (85, I43, J43, R43) 0 0) ∧ ((I43 64 4) = (-2) → (∀ (J44 : Nat → Nat → Int64), J44 = ow_u J43 63 3 0 → (∀ (J45 : Nat → Nat → Int64), J45 = ow_u J44 63 4 0 → Q none (85, I43, J45, R43))))))))))))))) : ow_AM M_Winds_weigh (d + 1) [.ref 63, .ref 29, .int p1, .int p2] (85, I, J, R) Q := by
  refine ow_enter (by decide) (Nat.le_of_ble_eq_true rfl) ?_
  show ow_AW ow_Y0 (ow_Z Q) M_Winds_weigh (d + 1) 0 0 0 [(0, .ref 63), (1, .ref 29), (2, .int p1), (3, .int p2)] [] (85, I, J, R) 0 0
  refine ow_aload_n 0 rfl d_Winds_weigh_0 ?_
  refine ow_iload_n 3 rfl d_Winds_weigh_1 ?_
  refine ow_if_eq (tgt := 9) d_Winds_weigh_2 (by decide) (fun c => ?_) (fun c => ?_)
  · replace T := T.1 c
    refine ow_lconst (v := 0) (by decide) d_Winds_weigh_9 ?_
    refine ow_pJ 141 d_Winds_weigh_10 rfl rfl (by decide) rfl rfl rfl ?_
    obtain ⟨J24, eJ24⟩ : ∃ uu, uu = ow_u J 63 3 0 := ⟨_, rfl⟩
    replace T := T J24 eJ24
    rw [← eJ24]
    refine ow_aload_n 0 rfl d_Winds_weigh_13 ?_
    refine ow_iload_n 3 rfl d_Winds_weigh_14 ?_
    refine ow_if_eq (tgt := 22) d_Winds_weigh_15 (by decide) (fun c => ?_) (fun c => ?_)
    · replace T := T.1 c
      refine ow_lconst (v := 1) (by decide) d_Winds_weigh_22 ?_
      refine ow_pJ 143 d_Winds_weigh_23 rfl rfl (by decide) rfl rfl rfl ?_
      obtain ⟨J25, eJ25⟩ : ∃ uu, uu = ow_u J24 63 4 1 := ⟨_, rfl⟩
      replace T := T J25 eJ25
      rw [← eJ25]
      refine ow_aload_n 0 rfl d_Winds_weigh_26 ?_
      refine ow_lconst (v := 1) (by decide) d_Winds_weigh_27 ?_
      refine ow_pJ 145 d_Winds_weigh_28 rfl rfl (by decide) rfl rfl rfl ?_
      obtain ⟨J26, eJ26⟩ : ∃ uu, uu = ow_u J25 63 5 1 := ⟨_, rfl⟩
      replace T := T J26 eJ26
      rw [← eJ26]
      refine ow_aload_n 0 rfl d_Winds_weigh_31 ?_
      refine ow_gR (a := 64) 138 d_Winds_weigh_32 rfl rfl (by decide) rfl ⟨rfl, hR 63 1 (by decide)⟩ ?_
      refine ow_aload_n 1 rfl d_Winds_weigh_35 ?_
      refine ow_iload_n 2 rfl d_Winds_weigh_36 ?_
      refine ow_iload_n 3 rfl d_Winds_weigh_37 ?_
      refine ow_callV (b := 64) (cq := 0) (As := [.ref 29, .int p1, .int p2]) (rest := []) (d2 := d) d_Winds_weigh_38 l_Winds_32 v_Course_run (show 64 < 85 by decide) rfl (by decide) rfl (Nat.le_of_ble_eq_true rfl) (Nat.le_refl _) ⟨Nat.le_refl _, Nat.le_refl _⟩ (ow_mono T ?_)
      rintro r h' ⟨I27, J27, R27, rfl, rfl, hR27, T⟩
      show ow_AW ow_Y0 (ow_Z Q) M_Winds_weigh (d + 1) 0 0 41 [(0, .ref 63), (1, .ref 29), (2, .int p1), (3, .int p2)] [] (85, I27, J27, R27) 0 0
      refine ow_aload_n 0 rfl d_Winds_weigh_41 ?_
      refine ow_gR (a := 64) 138 d_Winds_weigh_42 rfl rfl (by decide) rfl ⟨rfl, hR27 63 1 (by decide)⟩ ?_
      refine ow_gI 99 d_Winds_weigh_45 rfl rfl (by decide) rfl (Or.inl rfl) ?_
      refine ow_bipush (v := (-2)) (by decide) d_Winds_weigh_48 ?_
      refine ow_icmp_ne (tgt := 64) d_Winds_weigh_50 (by decide) (fun c => ?_) (fun c => ?_)
      · replace T := T.1 c
        refine ow_iconst (v := 0) (by decide) d_Winds_weigh_64 ?_
        refine ow_istore (ls2 := [(4, .int 0), (0, .ref 63), (1, .ref 29), (2, .int p1), (3, .int p2)]) d_Winds_weigh_65 (by decide) rfl ?_
        refine ow_sub [1, 2, 0] rfl ?_
        exact T
      · replace T := T.2 c
        refine ow_aload_n 0 rfl d_Winds_weigh_53 ?_
        refine ow_lconst (v := 0) (by decide) d_Winds_weigh_54 ?_
        refine ow_pJ 141 d_Winds_weigh_55 rfl rfl (by decide) rfl rfl rfl ?_
        obtain ⟨J28, eJ28⟩ : ∃ uu, uu = ow_u J27 63 3 0 := ⟨_, rfl⟩
        replace T := T J28 eJ28
        rw [← eJ28]
        refine ow_aload_n 0 rfl d_Winds_weigh_58 ?_
        refine ow_lconst (v := 0) (by decide) d_Winds_weigh_59 ?_
        refine ow_pJ 143 d_Winds_weigh_60 rfl rfl (by decide) rfl rfl rfl ?_
        obtain ⟨J29, eJ29⟩ : ∃ uu, uu = ow_u J28 63 4 0 := ⟨_, rfl⟩
        replace T := T J29 eJ29
        rw [← eJ29]
        exact ow_vret d_Winds_weigh_63 rfl T
    · replace T := T.2 c
      refine ow_lconst (v := 0) (by decide) d_Winds_weigh_18 ?_
      refine ow_goto (tgt := 23) d_Winds_weigh_19 (by decide) ?_
      refine ow_pJ 143 d_Winds_weigh_23 rfl rfl (by decide) rfl rfl rfl ?_
      obtain ⟨J30, eJ30⟩ : ∃ uu, uu = ow_u J24 63 4 0 := ⟨_, rfl⟩
      replace T := T J30 eJ30
      rw [← eJ30]
      refine ow_aload_n 0 rfl d_Winds_weigh_26 ?_
      refine ow_lconst (v := 1) (by decide) d_Winds_weigh_27 ?_
      refine ow_pJ 145 d_Winds_weigh_28 rfl rfl (by decide) rfl rfl rfl ?_
      obtain ⟨J31, eJ31⟩ : ∃ uu, uu = ow_u J30 63 5 1 := ⟨_, rfl⟩
      replace T := T J31 eJ31
      rw [← eJ31]
      refine ow_aload_n 0 rfl d_Winds_weigh_31 ?_
      refine ow_gR (a := 64) 138 d_Winds_weigh_32 rfl rfl (by decide) rfl ⟨rfl, hR 63 1 (by decide)⟩ ?_
      refine ow_aload_n 1 rfl d_Winds_weigh_35 ?_
      refine ow_iload_n 2 rfl d_Winds_weigh_36 ?_
      refine ow_iload_n 3 rfl d_Winds_weigh_37 ?_
      refine ow_callV (b := 64) (cq := 0) (As := [.ref 29, .int p1, .int p2]) (rest := []) (d2 := d) d_Winds_weigh_38 l_Winds_32 v_Course_run (show 64 < 85 by decide) rfl (by decide) rfl (Nat.le_of_ble_eq_true rfl) (Nat.le_refl _) ⟨Nat.le_refl _, Nat.le_refl _⟩ (ow_mono T ?_)
      rintro r h' ⟨I32, J32, R32, rfl, rfl, hR32, T⟩
      show ow_AW ow_Y0 (ow_Z Q) M_Winds_weigh (d + 1) 0 0 41 [(0, .ref 63), (1, .ref 29), (2, .int p1), (3, .int p2)] [] (85, I32, J32, R32) 0 0
      refine ow_aload_n 0 rfl d_Winds_weigh_41 ?_
      refine ow_gR (a := 64) 138 d_Winds_weigh_42 rfl rfl (by decide) rfl ⟨rfl, hR32 63 1 (by decide)⟩ ?_
      refine ow_gI 99 d_Winds_weigh_45 rfl rfl (by decide) rfl (Or.inl rfl) ?_
      refine ow_bipush (v := (-2)) (by decide) d_Winds_weigh_48 ?_
      refine ow_icmp_ne (tgt := 64) d_Winds_weigh_50 (by decide) (fun c => ?_) (fun c => ?_)
      · replace T := T.1 c
        refine ow_iconst (v := 0) (by decide) d_Winds_weigh_64 ?_
        refine ow_istore (ls2 := [(4, .int 0), (0, .ref 63), (1, .ref 29), (2, .int p1), (3, .int p2)]) d_Winds_weigh_65 (by decide) rfl ?_
        refine ow_sub [1, 2, 0] rfl ?_
        exact T
      · replace T := T.2 c
        refine ow_aload_n 0 rfl d_Winds_weigh_53 ?_
        refine ow_lconst (v := 0) (by decide) d_Winds_weigh_54 ?_
        refine ow_pJ 141 d_Winds_weigh_55 rfl rfl (by decide) rfl rfl rfl ?_
        obtain ⟨J33, eJ33⟩ : ∃ uu, uu = ow_u J32 63 3 0 := ⟨_, rfl⟩
        replace T := T J33 eJ33
        rw [← eJ33]
        refine ow_aload_n 0 rfl d_Winds_weigh_58 ?_
        refine ow_lconst (v := 0) (by decide) d_Winds_weigh_59 ?_
        refine ow_pJ 143 d_Winds_weigh_60 rfl rfl (by decide) rfl rfl rfl ?_
        obtain ⟨J34, eJ34⟩ : ∃ uu, uu = ow_u J33 63 4 0 := ⟨_, rfl⟩
        replace T := T J34 eJ34
        rw [← eJ34]
        exact ow_vret d_Winds_weigh_63 rfl T
  · replace T := T.2 c
    refine ow_lconst (v := 1) (by decide) d_Winds_weigh_5 ?_
    refine ow_goto (tgt := 10) d_Winds_weigh_6 (by decide) ?_
    refine ow_pJ 141 d_Winds_weigh_10 rfl rfl (by decide) rfl rfl rfl ?_
    obtain ⟨J35, eJ35⟩ : ∃ uu, uu = ow_u J 63 3 1 := ⟨_, rfl⟩
    replace T := T J35 eJ35
    rw [← eJ35]
    refine ow_aload_n 0 rfl d_Winds_weigh_13 ?_
    refine ow_iload_n 3 rfl d_Winds_weigh_14 ?_
    refine ow_if_eq (tgt := 22) d_Winds_weigh_15 (by decide) (fun c => ?_) (fun c => ?_)
    · replace T := T.1 c
      refine ow_lconst (v := 1) (by decide) d_Winds_weigh_22 ?_
      refine ow_pJ 143 d_Winds_weigh_23 rfl rfl (by decide) rfl rfl rfl ?_
      obtain ⟨J36, eJ36⟩ : ∃ uu, uu = ow_u J35 63 4 1 := ⟨_, rfl⟩
      replace T := T J36 eJ36
      rw [← eJ36]
      refine ow_aload_n 0 rfl d_Winds_weigh_26 ?_
      refine ow_lconst (v := 1) (by decide) d_Winds_weigh_27 ?_
      refine ow_pJ 145 d_Winds_weigh_28 rfl rfl (by decide) rfl rfl rfl ?_
      obtain ⟨J37, eJ37⟩ : ∃ uu, uu = ow_u J36 63 5 1 := ⟨_, rfl⟩
      replace T := T J37 eJ37
      rw [← eJ37]
      refine ow_aload_n 0 rfl d_Winds_weigh_31 ?_
      refine ow_gR (a := 64) 138 d_Winds_weigh_32 rfl rfl (by decide) rfl ⟨rfl, hR 63 1 (by decide)⟩ ?_
      refine ow_aload_n 1 rfl d_Winds_weigh_35 ?_
      refine ow_iload_n 2 rfl d_Winds_weigh_36 ?_
      refine ow_iload_n 3 rfl d_Winds_weigh_37 ?_
      refine ow_callV (b := 64) (cq := 0) (As := [.ref 29, .int p1, .int p2]) (rest := []) (d2 := d) d_Winds_weigh_38 l_Winds_32 v_Course_run (show 64 < 85 by decide) rfl (by decide) rfl (Nat.le_of_ble_eq_true rfl) (Nat.le_refl _) ⟨Nat.le_refl _, Nat.le_refl _⟩ (ow_mono T ?_)
      rintro r h' ⟨I38, J38, R38, rfl, rfl, hR38, T⟩
      show ow_AW ow_Y0 (ow_Z Q) M_Winds_weigh (d + 1) 0 0 41 [(0, .ref 63), (1, .ref 29), (2, .int p1), (3, .int p2)] [] (85, I38, J38, R38) 0 0
      refine ow_aload_n 0 rfl d_Winds_weigh_41 ?_
      refine ow_gR (a := 64) 138 d_Winds_weigh_42 rfl rfl (by decide) rfl ⟨rfl, hR38 63 1 (by decide)⟩ ?_
      refine ow_gI 99 d_Winds_weigh_45 rfl rfl (by decide) rfl (Or.inl rfl) ?_
      refine ow_bipush (v := (-2)) (by decide) d_Winds_weigh_48 ?_
      refine ow_icmp_ne (tgt := 64) d_Winds_weigh_50 (by decide) (fun c => ?_) (fun c => ?_)
      · replace T := T.1 c
        refine ow_iconst (v := 0) (by decide) d_Winds_weigh_64 ?_
        refine ow_istore (ls2 := [(4, .int 0), (0, .ref 63), (1, .ref 29), (2, .int p1), (3, .int p2)]) d_Winds_weigh_65 (by decide) rfl ?_
        refine ow_sub [1, 2, 0] rfl ?_
        exact T
      · replace T := T.2 c
        refine ow_aload_n 0 rfl d_Winds_weigh_53 ?_
        refine ow_lconst (v := 0) (by decide) d_Winds_weigh_54 ?_
        refine ow_pJ 141 d_Winds_weigh_55 rfl rfl (by decide) rfl rfl rfl ?_
        obtain ⟨J39, eJ39⟩ : ∃ uu, uu = ow_u J38 63 3 0 := ⟨_, rfl⟩
        replace T := T J39 eJ39
        rw [← eJ39]
        refine ow_aload_n 0 rfl d_Winds_weigh_58 ?_
        refine ow_lconst (v := 0) (by decide) d_Winds_weigh_59 ?_
        refine ow_pJ 143 d_Winds_weigh_60 rfl rfl (by decide) rfl rfl rfl ?_
        obtain ⟨J40, eJ40⟩ : ∃ uu, uu = ow_u J39 63 4 0 := ⟨_, rfl⟩
        replace T := T J40 eJ40
        rw [← eJ40]
        exact ow_vret d_Winds_weigh_63 rfl T
    · replace T := T.2 c
      refine ow_lconst (v := 0) (by decide) d_Winds_weigh_18 ?_
      refine ow_goto (tgt := 23) d_Winds_weigh_19 (by decide) ?_
      refine ow_pJ 143 d_Winds_weigh_23 rfl rfl (by decide) rfl rfl rfl ?_
      obtain ⟨J41, eJ41⟩ : ∃ uu, uu = ow_u J35 63 4 0 := ⟨_, rfl⟩
      replace T := T J41 eJ41
      rw [← eJ41]
      refine ow_aload_n 0 rfl d_Winds_weigh_26 ?_
      refine ow_lconst (v := 1) (by decide) d_Winds_weigh_27 ?_
      refine ow_pJ 145 d_Winds_weigh_28 rfl rfl (by decide) rfl rfl rfl ?_
      obtain ⟨J42, eJ42⟩ : ∃ uu, uu = ow_u J41 63 5 1 := ⟨_, rfl⟩
      replace T := T J42 eJ42
      rw [← eJ42]
      refine ow_aload_n 0 rfl d_Winds_weigh_31 ?_
      refine ow_gR (a := 64) 138 d_Winds_weigh_32 rfl rfl (by decide) rfl ⟨rfl, hR 63 1 (by decide)⟩ ?_
      refine ow_aload_n 1 rfl d_Winds_weigh_35 ?_
      refine ow_iload_n 2 rfl d_Winds_weigh_36 ?_
      refine ow_iload_n 3 rfl d_Winds_weigh_37 ?_
      refine ow_callV (b := 64) (cq := 0) (As := [.ref 29, .int p1, .int p2]) (rest := []) (d2 := d) d_Winds_weigh_38 l_Winds_32 v_Course_run (show 64 < 85 by decide) rfl (by decide) rfl (Nat.le_of_ble_eq_true rfl) (Nat.le_refl _) ⟨Nat.le_refl _, Nat.le_refl _⟩ (ow_mono T ?_)
      rintro r h' ⟨I43, J43, R43, rfl, rfl, hR43, T⟩
      show ow_AW ow_Y0 (ow_Z Q) M_Winds_weigh (d + 1) 0 0 41 [(0, .ref 63), (1, .ref 29), (2, .int p1), (3, .int p2)] [] (85, I43, J43, R43) 0 0
      refine ow_aload_n 0 rfl d_Winds_weigh_41 ?_
      refine ow_gR (a := 64) 138 d_Winds_weigh_42 rfl rfl (by decide) rfl ⟨rfl, hR43 63 1 (by decide)⟩ ?_
      refine ow_gI 99 d_Winds_weigh_45 rfl rfl (by decide) rfl (Or.inl rfl) ?_
      refine ow_bipush (v := (-2)) (by decide) d_Winds_weigh_48 ?_
      refine ow_icmp_ne (tgt := 64) d_Winds_weigh_50 (by decide) (fun c => ?_) (fun c => ?_)
      · replace T := T.1 c
        refine ow_iconst (v := 0) (by decide) d_Winds_weigh_64 ?_
        refine ow_istore (ls2 := [(4, .int 0), (0, .ref 63), (1, .ref 29), (2, .int p1), (3, .int p2)]) d_Winds_weigh_65 (by decide) rfl ?_
        refine ow_sub [1, 2, 0] rfl ?_
        exact T
      · replace T := T.2 c
        refine ow_aload_n 0 rfl d_Winds_weigh_53 ?_
        refine ow_lconst (v := 0) (by decide) d_Winds_weigh_54 ?_
        refine ow_pJ 141 d_Winds_weigh_55 rfl rfl (by decide) rfl rfl rfl ?_
        obtain ⟨J44, eJ44⟩ : ∃ uu, uu = ow_u J43 63 3 0 := ⟨_, rfl⟩
        replace T := T J44 eJ44
        rw [← eJ44]
        refine ow_aload_n 0 rfl d_Winds_weigh_58 ?_
        refine ow_lconst (v := 0) (by decide) d_Winds_weigh_59 ?_
        refine ow_pJ 143 d_Winds_weigh_60 rfl rfl (by decide) rfl rfl rfl ?_
        obtain ⟨J45, eJ45⟩ : ∃ uu, uu = ow_u J44 63 4 0 := ⟨_, rfl⟩
        replace T := T J45 eJ45
        rw [← eJ45]
        exact ow_vret d_Winds_weigh_63 rfl T
set_option maxRecDepth 4000 in
theorem t_Winds_weighAnswer {d : Nat} {I : Nat → Nat → Int32} {J : Nat → Nat → Int64} {R : Nat → Nat → Option Nat} {Q : Option Value → ow_H → Prop} {p1 : Int32}  (hR : ow_RF R) (T : (ow_AM M_Scene_reply d [.ref 29, .int p1, .int 1] (85, I, J, R) (fun r h' => ∃ (r16 : Int32) (I16 : Nat → Nat → Int32) (J16 : Nat → Nat → Int64) (R16 : Nat → Nat → Option Nat), r = some (.int r16) ∧ h' = (85, I16, J16, R16) ∧ ow_RF R16 ∧ ((¬ r16 = 1 → (ow_AM M_Scene_reply d [.ref 29, .int p1, .int 0] (85, I16, J16, R16) (fun r h' => ∃ (r17 : Int32) (I17 : Nat → Nat → Int32) (J17 : Nat → Nat → Int64) (R17 : Nat → Nat → Option Nat), r = some (.int r17) ∧ h' = (85, I17, J17, R17) ∧ ow_RF R17 ∧ ((¬ r17 = 1 → (∀ (J18 : Nat → Nat → Int64), J18 = ow_u J17 63 3 ((0 * (Int32.toInt64 (100 - (I17 2 0)))) + ((((J17 63 3) + (J17 63 4)) - 0) * (Int32.toInt64 (I17 2 0)))) → (∀ (J19 : Nat → Nat → Int64), J19 = ow_u J18 63 4 (((((J17 63 3) + (J17 63 4)) - 0) * (Int32.toInt64 (100 - (I17 2 0)))) + (0 * (Int32.toInt64 (I17 2 0)))) → (∀ (J20 : Nat → Nat → Int64), J20 = ow_u J19 63 5 ((J19 63 5) * 100) → Q none (85, I17, J20, R17))))) ∧ (r17 = 1 → (∀ (J21 : Nat → Nat → Int64), J21 = ow_u J17 63 3 (((0 + (J17 63 4)) * (Int32.toInt64 (100 - (I17 2 0)))) + ((((J17 63 3) + (J17 63 4)) - (0 + (J17 63 4))) * (Int32.toInt64 (I17 2 0)))) → (∀ (J22 : Nat → Nat → Int64), J22 = ow_u J21 63 4 (((((J17 63 3) + (J17 63 4)) - (0 + (J17 63 4))) * (Int32.toInt64 (100 - (I17 2 0)))) + ((0 + (J17 63 4)) * (Int32.toInt64 (I17 2 0)))) → (∀ (J23 : Nat → Nat → Int64), J23 = ow_u J22 63 5 ((J22 63 5) * 100) → Q none (85, I17, J23, R17))))))))) ∧ (r16 = 1 → (ow_AM M_Scene_reply d [.ref 29, .int p1, .int 0] (85, I16, J16, R16) (fun r h' => ∃ (r24 : Int32) (I24 : Nat → Nat → Int32) (J24 : Nat → Nat → Int64) (R24 : Nat → Nat → Option Nat), r = some (.int r24) ∧ h' = (85, I24, J24, R24) ∧ ow_RF R24 ∧ ((¬ r24 = 1 → (∀ (J25 : Nat → Nat → Int64), J25 = ow_u J24 63 3 (((0 + (J16 63 3)) * (Int32.toInt64 (100 - (I24 2 0)))) + ((((J24 63 3) + (J24 63 4)) - (0 + (J16 63 3))) * (Int32.toInt64 (I24 2 0)))) → (∀ (J26 : Nat → Nat → Int64), J26 = ow_u J25 63 4 (((((J24 63 3) + (J24 63 4)) - (0 + (J16 63 3))) * (Int32.toInt64 (100 - (I24 2 0)))) + ((0 + (J16 63 3)) * (Int32.toInt64 (I24 2 0)))) → (∀ (J27 : Nat → Nat → Int64), J27 = ow_u J26 63 5 ((J26 63 5) * 100) → Q none (85, I24, J27, R24))))) ∧ (r24 = 1 → (∀ (J28 : Nat → Nat → Int64), J28 = ow_u J24 63 3 ((((0 + (J16 63 3)) + (J24 63 4)) * (Int32.toInt64 (100 - (I24 2 0)))) + ((((J24 63 3) + (J24 63 4)) - ((0 + (J16 63 3)) + (J24 63 4))) * (Int32.toInt64 (I24 2 0)))) → (∀ (J29 : Nat → Nat → Int64), J29 = ow_u J28 63 4 (((((J24 63 3) + (J24 63 4)) - ((0 + (J16 63 3)) + (J24 63 4))) * (Int32.toInt64 (100 - (I24 2 0)))) + (((0 + (J16 63 3)) + (J24 63 4)) * (Int32.toInt64 (I24 2 0)))) → (∀ (J30 : Nat → Nat → Int64), J30 = ow_u J29 63 5 ((J29 63 5) * 100) → Q none (85, I24, J30, R24))))))))))))) : ow_AM M_Winds_weighAnswer (d + 1) [.ref 63, .ref 29, .int p1] (85, I, J, R) Q := by
  refine ow_enter (by decide) (Nat.le_of_ble_eq_true rfl) ?_
  show ow_AW ow_Y0 (ow_Z Q) M_Winds_weighAnswer (d + 1) 0 0 0 [(0, .ref 63), (1, .ref 29), (2, .int p1)] [] (85, I, J, R) 0 0
  refine ow_lconst (v := 0) (by decide) d_Winds_weighAnswer_0 ?_
  refine ow_lstore_n (ls2 := [(3, .long 0), (0, .ref 63), (1, .ref 29), (2, .int p1)]) d_Winds_weighAnswer_1 (by decide) rfl ?_
  refine ow_aload_n 2 rfl d_Winds_weighAnswer_2 ?_
  refine ow_iload_n 3 rfl d_Winds_weighAnswer_3 ?_
  refine ow_iconst (v := 1) (by decide) d_Winds_weighAnswer_4 ?_
  refine ow_callV (b := 29) (cq := 4) (As := [.int p1, .int 1]) (rest := []) (d2 := d) d_Winds_weighAnswer_5 l_Winds_51 v_Scene_reply (show 29 < 85 by decide) rfl (by decide) rfl (Nat.le_of_ble_eq_true rfl) (Nat.le_refl _) ⟨Nat.le_refl _, Nat.le_refl _⟩ (ow_mono T ?_)
  rintro r h' ⟨r16, I16, J16, R16, rfl, rfl, hR16, T⟩
  show ow_AW ow_Y0 (ow_Z Q) M_Winds_weighAnswer (d + 1) 0 0 8 [(3, .long 0), (0, .ref 63), (1, .ref 29), (2, .int p1)] [.int r16] (85, I16, J16, R16) 0 0
  refine ow_iconst (v := 1) (by decide) d_Winds_weighAnswer_8 ?_
  refine ow_icmp_ne (tgt := 19) d_Winds_weighAnswer_9 (by decide) (fun c => ?_) (fun c => ?_)
  · replace T := T.1 c
    refine ow_aload_n 2 rfl d_Winds_weighAnswer_19 ?_
    refine ow_iload_n 3 rfl d_Winds_weighAnswer_20 ?_
    refine ow_iconst (v := 0) (by decide) d_Winds_weighAnswer_21 ?_
    refine ow_callV (b := 29) (cq := 4) (As := [.int p1, .int 0]) (rest := []) (d2 := d) d_Winds_weighAnswer_22 l_Winds_51 v_Scene_reply (show 29 < 85 by decide) rfl (by decide) rfl (Nat.le_of_ble_eq_true rfl) (Nat.le_refl _) ⟨Nat.le_refl _, Nat.le_refl _⟩ (ow_mono T ?_)
    rintro r h' ⟨r17, I17, J17, R17, rfl, rfl, hR17, T⟩
    show ow_AW ow_Y0 (ow_Z Q) M_Winds_weighAnswer (d + 1) 0 0 25 [(3, .long 0), (0, .ref 63), (1, .ref 29), (2, .int p1)] [.int r17] (85, I17, J17, R17) 0 0
    refine ow_iconst (v := 1) (by decide) d_Winds_weighAnswer_25 ?_
    refine ow_icmp_ne (tgt := 36) d_Winds_weighAnswer_26 (by decide) (fun c => ?_) (fun c => ?_)
    · replace T := T.1 c
      refine ow_aload_n 1 rfl d_Winds_weighAnswer_36 ?_
      refine ow_gJ 141 d_Winds_weighAnswer_37 rfl rfl (by decide) rfl rfl ?_
      refine ow_aload_n 1 rfl d_Winds_weighAnswer_40 ?_
      refine ow_gJ 143 d_Winds_weighAnswer_41 rfl rfl (by decide) rfl rfl ?_
      refine ow_ladd d_Winds_weighAnswer_44 ?_
      refine ow_lload_n 0 rfl d_Winds_weighAnswer_45 ?_
      refine ow_lsub d_Winds_weighAnswer_46 ?_
      refine ow_lstore (ls2 := [(5, .long (((J17 63 3) + (J17 63 4)) - 0)), (3, .long 0), (0, .ref 63), (1, .ref 29), (2, .int p1)]) d_Winds_weighAnswer_47 (by decide) rfl ?_
      refine ow_aload_n 2 rfl d_Winds_weighAnswer_49 ?_
      refine ow_lload_n 1 rfl d_Winds_weighAnswer_50 ?_
      refine ow_bipush (v := 100) (by decide) d_Winds_weighAnswer_51 ?_
      refine ow_aload_n 2 rfl d_Winds_weighAnswer_53 ?_
      refine ow_gR (a := 2) 137 d_Winds_weighAnswer_54 rfl rfl (by decide) rfl ⟨rfl, hR17 63 0 (by decide)⟩ ?_
      refine ow_gI 27 d_Winds_weighAnswer_57 rfl rfl (by decide) rfl (Or.inl rfl) ?_
      refine ow_isub d_Winds_weighAnswer_60 ?_
      refine ow_i2l d_Winds_weighAnswer_61 ?_
      refine ow_lmul d_Winds_weighAnswer_62 ?_
      refine ow_lload 0 rfl d_Winds_weighAnswer_63 ?_
      refine ow_aload_n 2 rfl d_Winds_weighAnswer_65 ?_
      refine ow_gR (a := 2) 137 d_Winds_weighAnswer_66 rfl rfl (by decide) rfl ⟨rfl, hR17 63 0 (by decide)⟩ ?_
      refine ow_gI 27 d_Winds_weighAnswer_69 rfl rfl (by decide) rfl (Or.inl rfl) ?_
      refine ow_i2l d_Winds_weighAnswer_72 ?_
      refine ow_lmul d_Winds_weighAnswer_73 ?_
      refine ow_ladd d_Winds_weighAnswer_74 ?_
      refine ow_pJ 141 d_Winds_weighAnswer_75 rfl rfl (by decide) rfl rfl rfl ?_
      obtain ⟨J18, eJ18⟩ : ∃ uu, uu = ow_u J17 63 3 ((0 * (Int32.toInt64 (100 - (I17 2 0)))) + ((((J17 63 3) + (J17 63 4)) - 0) * (Int32.toInt64 (I17 2 0)))) := ⟨_, rfl⟩
      replace T := T J18 eJ18
      rw [← eJ18]
      refine ow_aload_n 2 rfl d_Winds_weighAnswer_78 ?_
      refine ow_lload 0 rfl d_Winds_weighAnswer_79 ?_
      refine ow_bipush (v := 100) (by decide) d_Winds_weighAnswer_81 ?_
      refine ow_aload_n 2 rfl d_Winds_weighAnswer_83 ?_
      refine ow_gR (a := 2) 137 d_Winds_weighAnswer_84 rfl rfl (by decide) rfl ⟨rfl, hR17 63 0 (by decide)⟩ ?_
      refine ow_gI 27 d_Winds_weighAnswer_87 rfl rfl (by decide) rfl (Or.inl rfl) ?_
      refine ow_isub d_Winds_weighAnswer_90 ?_
      refine ow_i2l d_Winds_weighAnswer_91 ?_
      refine ow_lmul d_Winds_weighAnswer_92 ?_
      refine ow_lload_n 1 rfl d_Winds_weighAnswer_93 ?_
      refine ow_aload_n 2 rfl d_Winds_weighAnswer_94 ?_
      refine ow_gR (a := 2) 137 d_Winds_weighAnswer_95 rfl rfl (by decide) rfl ⟨rfl, hR17 63 0 (by decide)⟩ ?_
      refine ow_gI 27 d_Winds_weighAnswer_98 rfl rfl (by decide) rfl (Or.inl rfl) ?_
      refine ow_i2l d_Winds_weighAnswer_101 ?_
      refine ow_lmul d_Winds_weighAnswer_102 ?_
      refine ow_ladd d_Winds_weighAnswer_103 ?_
      refine ow_pJ 143 d_Winds_weighAnswer_104 rfl rfl (by decide) rfl rfl rfl ?_
      obtain ⟨J19, eJ19⟩ : ∃ uu, uu = ow_u J18 63 4 (((((J17 63 3) + (J17 63 4)) - 0) * (Int32.toInt64 (100 - (I17 2 0)))) + (0 * (Int32.toInt64 (I17 2 0)))) := ⟨_, rfl⟩
      replace T := T J19 eJ19
      rw [← eJ19]
      refine ow_aload_n 2 rfl d_Winds_weighAnswer_107 ?_
      refine ow_dup rfl d_Winds_weighAnswer_108 ?_
      refine ow_gJ 145 d_Winds_weighAnswer_109 rfl rfl (by decide) rfl rfl ?_
      refine ow_ldc2 (v := 100) d_Winds_weighAnswer_112 k_Winds_62 ?_
      refine ow_lmul d_Winds_weighAnswer_115 ?_
      refine ow_pJ 145 d_Winds_weighAnswer_116 rfl rfl (by decide) rfl rfl rfl ?_
      obtain ⟨J20, eJ20⟩ : ∃ uu, uu = ow_u J19 63 5 ((J19 63 5) * 100) := ⟨_, rfl⟩
      replace T := T J20 eJ20
      rw [← eJ20]
      exact ow_vret d_Winds_weighAnswer_119 rfl T
    · replace T := T.2 c
      refine ow_lload_n 0 rfl d_Winds_weighAnswer_29 ?_
      refine ow_aload_n 1 rfl d_Winds_weighAnswer_30 ?_
      refine ow_gJ 143 d_Winds_weighAnswer_31 rfl rfl (by decide) rfl rfl ?_
      refine ow_ladd d_Winds_weighAnswer_34 ?_
      refine ow_lstore_n (ls2 := [(3, .long (0 + (J17 63 4))), (0, .ref 63), (1, .ref 29), (2, .int p1)]) d_Winds_weighAnswer_35 (by decide) rfl ?_
      refine ow_aload_n 1 rfl d_Winds_weighAnswer_36 ?_
      refine ow_gJ 141 d_Winds_weighAnswer_37 rfl rfl (by decide) rfl rfl ?_
      refine ow_aload_n 1 rfl d_Winds_weighAnswer_40 ?_
      refine ow_gJ 143 d_Winds_weighAnswer_41 rfl rfl (by decide) rfl rfl ?_
      refine ow_ladd d_Winds_weighAnswer_44 ?_
      refine ow_lload_n 0 rfl d_Winds_weighAnswer_45 ?_
      refine ow_lsub d_Winds_weighAnswer_46 ?_
      refine ow_lstore (ls2 := [(5, .long (((J17 63 3) + (J17 63 4)) - (0 + (J17 63 4)))), (3, .long (0 + (J17 63 4))), (0, .ref 63), (1, .ref 29), (2, .int p1)]) d_Winds_weighAnswer_47 (by decide) rfl ?_
      refine ow_aload_n 2 rfl d_Winds_weighAnswer_49 ?_
      refine ow_lload_n 1 rfl d_Winds_weighAnswer_50 ?_
      refine ow_bipush (v := 100) (by decide) d_Winds_weighAnswer_51 ?_
      refine ow_aload_n 2 rfl d_Winds_weighAnswer_53 ?_
      refine ow_gR (a := 2) 137 d_Winds_weighAnswer_54 rfl rfl (by decide) rfl ⟨rfl, hR17 63 0 (by decide)⟩ ?_
      refine ow_gI 27 d_Winds_weighAnswer_57 rfl rfl (by decide) rfl (Or.inl rfl) ?_
      refine ow_isub d_Winds_weighAnswer_60 ?_
      refine ow_i2l d_Winds_weighAnswer_61 ?_
      refine ow_lmul d_Winds_weighAnswer_62 ?_
      refine ow_lload 0 rfl d_Winds_weighAnswer_63 ?_
      refine ow_aload_n 2 rfl d_Winds_weighAnswer_65 ?_
      refine ow_gR (a := 2) 137 d_Winds_weighAnswer_66 rfl rfl (by decide) rfl ⟨rfl, hR17 63 0 (by decide)⟩ ?_
      refine ow_gI 27 d_Winds_weighAnswer_69 rfl rfl (by decide) rfl (Or.inl rfl) ?_
      refine ow_i2l d_Winds_weighAnswer_72 ?_
      refine ow_lmul d_Winds_weighAnswer_73 ?_
      refine ow_ladd d_Winds_weighAnswer_74 ?_
      refine ow_pJ 141 d_Winds_weighAnswer_75 rfl rfl (by decide) rfl rfl rfl ?_
      obtain ⟨J21, eJ21⟩ : ∃ uu, uu = ow_u J17 63 3 (((0 + (J17 63 4)) * (Int32.toInt64 (100 - (I17 2 0)))) + ((((J17 63 3) + (J17 63 4)) - (0 + (J17 63 4))) * (Int32.toInt64 (I17 2 0)))) := ⟨_, rfl⟩
      replace T := T J21 eJ21
      rw [← eJ21]
      refine ow_aload_n 2 rfl d_Winds_weighAnswer_78 ?_
      refine ow_lload 0 rfl d_Winds_weighAnswer_79 ?_
      refine ow_bipush (v := 100) (by decide) d_Winds_weighAnswer_81 ?_
      refine ow_aload_n 2 rfl d_Winds_weighAnswer_83 ?_
      refine ow_gR (a := 2) 137 d_Winds_weighAnswer_84 rfl rfl (by decide) rfl ⟨rfl, hR17 63 0 (by decide)⟩ ?_
      refine ow_gI 27 d_Winds_weighAnswer_87 rfl rfl (by decide) rfl (Or.inl rfl) ?_
      refine ow_isub d_Winds_weighAnswer_90 ?_
      refine ow_i2l d_Winds_weighAnswer_91 ?_
      refine ow_lmul d_Winds_weighAnswer_92 ?_
      refine ow_lload_n 1 rfl d_Winds_weighAnswer_93 ?_
      refine ow_aload_n 2 rfl d_Winds_weighAnswer_94 ?_
      refine ow_gR (a := 2) 137 d_Winds_weighAnswer_95 rfl rfl (by decide) rfl ⟨rfl, hR17 63 0 (by decide)⟩ ?_
      refine ow_gI 27 d_Winds_weighAnswer_98 rfl rfl (by decide) rfl (Or.inl rfl) ?_
      refine ow_i2l d_Winds_weighAnswer_101 ?_
      refine ow_lmul d_Winds_weighAnswer_102 ?_
      refine ow_ladd d_Winds_weighAnswer_103 ?_
      refine ow_pJ 143 d_Winds_weighAnswer_104 rfl rfl (by decide) rfl rfl rfl ?_
      obtain ⟨J22, eJ22⟩ : ∃ uu, uu = ow_u J21 63 4 (((((J17 63 3) + (J17 63 4)) - (0 + (J17 63 4))) * (Int32.toInt64 (100 - (I17 2 0)))) + ((0 + (J17 63 4)) * (Int32.toInt64 (I17 2 0)))) := ⟨_, rfl⟩
      replace T := T J22 eJ22
      rw [← eJ22]
      refine ow_aload_n 2 rfl d_Winds_weighAnswer_107 ?_
      refine ow_dup rfl d_Winds_weighAnswer_108 ?_
      refine ow_gJ 145 d_Winds_weighAnswer_109 rfl rfl (by decide) rfl rfl ?_
      refine ow_ldc2 (v := 100) d_Winds_weighAnswer_112 k_Winds_62 ?_
      refine ow_lmul d_Winds_weighAnswer_115 ?_
      refine ow_pJ 145 d_Winds_weighAnswer_116 rfl rfl (by decide) rfl rfl rfl ?_
      obtain ⟨J23, eJ23⟩ : ∃ uu, uu = ow_u J22 63 5 ((J22 63 5) * 100) := ⟨_, rfl⟩
      replace T := T J23 eJ23
      rw [← eJ23]
      exact ow_vret d_Winds_weighAnswer_119 rfl T
  · replace T := T.2 c
    refine ow_lload_n 0 rfl d_Winds_weighAnswer_12 ?_
    refine ow_aload_n 1 rfl d_Winds_weighAnswer_13 ?_
    refine ow_gJ 141 d_Winds_weighAnswer_14 rfl rfl (by decide) rfl rfl ?_
    refine ow_ladd d_Winds_weighAnswer_17 ?_
    refine ow_lstore_n (ls2 := [(3, .long (0 + (J16 63 3))), (0, .ref 63), (1, .ref 29), (2, .int p1)]) d_Winds_weighAnswer_18 (by decide) rfl ?_
    refine ow_aload_n 2 rfl d_Winds_weighAnswer_19 ?_
    refine ow_iload_n 3 rfl d_Winds_weighAnswer_20 ?_
    refine ow_iconst (v := 0) (by decide) d_Winds_weighAnswer_21 ?_
    refine ow_callV (b := 29) (cq := 4) (As := [.int p1, .int 0]) (rest := []) (d2 := d) d_Winds_weighAnswer_22 l_Winds_51 v_Scene_reply (show 29 < 85 by decide) rfl (by decide) rfl (Nat.le_of_ble_eq_true rfl) (Nat.le_refl _) ⟨Nat.le_refl _, Nat.le_refl _⟩ (ow_mono T ?_)
    rintro r h' ⟨r24, I24, J24, R24, rfl, rfl, hR24, T⟩
    show ow_AW ow_Y0 (ow_Z Q) M_Winds_weighAnswer (d + 1) 0 0 25 [(3, .long (0 + (J16 63 3))), (0, .ref 63), (1, .ref 29), (2, .int p1)] [.int r24] (85, I24, J24, R24) 0 0
    refine ow_iconst (v := 1) (by decide) d_Winds_weighAnswer_25 ?_
    refine ow_icmp_ne (tgt := 36) d_Winds_weighAnswer_26 (by decide) (fun c => ?_) (fun c => ?_)
    · replace T := T.1 c
      refine ow_aload_n 1 rfl d_Winds_weighAnswer_36 ?_
      refine ow_gJ 141 d_Winds_weighAnswer_37 rfl rfl (by decide) rfl rfl ?_
      refine ow_aload_n 1 rfl d_Winds_weighAnswer_40 ?_
      refine ow_gJ 143 d_Winds_weighAnswer_41 rfl rfl (by decide) rfl rfl ?_
      refine ow_ladd d_Winds_weighAnswer_44 ?_
      refine ow_lload_n 0 rfl d_Winds_weighAnswer_45 ?_
      refine ow_lsub d_Winds_weighAnswer_46 ?_
      refine ow_lstore (ls2 := [(5, .long (((J24 63 3) + (J24 63 4)) - (0 + (J16 63 3)))), (3, .long (0 + (J16 63 3))), (0, .ref 63), (1, .ref 29), (2, .int p1)]) d_Winds_weighAnswer_47 (by decide) rfl ?_
      refine ow_aload_n 2 rfl d_Winds_weighAnswer_49 ?_
      refine ow_lload_n 1 rfl d_Winds_weighAnswer_50 ?_
      refine ow_bipush (v := 100) (by decide) d_Winds_weighAnswer_51 ?_
      refine ow_aload_n 2 rfl d_Winds_weighAnswer_53 ?_
      refine ow_gR (a := 2) 137 d_Winds_weighAnswer_54 rfl rfl (by decide) rfl ⟨rfl, hR24 63 0 (by decide)⟩ ?_
      refine ow_gI 27 d_Winds_weighAnswer_57 rfl rfl (by decide) rfl (Or.inl rfl) ?_
      refine ow_isub d_Winds_weighAnswer_60 ?_
      refine ow_i2l d_Winds_weighAnswer_61 ?_
      refine ow_lmul d_Winds_weighAnswer_62 ?_
      refine ow_lload 0 rfl d_Winds_weighAnswer_63 ?_
      refine ow_aload_n 2 rfl d_Winds_weighAnswer_65 ?_
      refine ow_gR (a := 2) 137 d_Winds_weighAnswer_66 rfl rfl (by decide) rfl ⟨rfl, hR24 63 0 (by decide)⟩ ?_
      refine ow_gI 27 d_Winds_weighAnswer_69 rfl rfl (by decide) rfl (Or.inl rfl) ?_
      refine ow_i2l d_Winds_weighAnswer_72 ?_
      refine ow_lmul d_Winds_weighAnswer_73 ?_
      refine ow_ladd d_Winds_weighAnswer_74 ?_
      refine ow_pJ 141 d_Winds_weighAnswer_75 rfl rfl (by decide) rfl rfl rfl ?_
      obtain ⟨J25, eJ25⟩ : ∃ uu, uu = ow_u J24 63 3 (((0 + (J16 63 3)) * (Int32.toInt64 (100 - (I24 2 0)))) + ((((J24 63 3) + (J24 63 4)) - (0 + (J16 63 3))) * (Int32.toInt64 (I24 2 0)))) := ⟨_, rfl⟩
      replace T := T J25 eJ25
      rw [← eJ25]
      refine ow_aload_n 2 rfl d_Winds_weighAnswer_78 ?_
      refine ow_lload 0 rfl d_Winds_weighAnswer_79 ?_
      refine ow_bipush (v := 100) (by decide) d_Winds_weighAnswer_81 ?_
      refine ow_aload_n 2 rfl d_Winds_weighAnswer_83 ?_
      refine ow_gR (a := 2) 137 d_Winds_weighAnswer_84 rfl rfl (by decide) rfl ⟨rfl, hR24 63 0 (by decide)⟩ ?_
      refine ow_gI 27 d_Winds_weighAnswer_87 rfl rfl (by decide) rfl (Or.inl rfl) ?_
      refine ow_isub d_Winds_weighAnswer_90 ?_
      refine ow_i2l d_Winds_weighAnswer_91 ?_
      refine ow_lmul d_Winds_weighAnswer_92 ?_
      refine ow_lload_n 1 rfl d_Winds_weighAnswer_93 ?_
      refine ow_aload_n 2 rfl d_Winds_weighAnswer_94 ?_
      refine ow_gR (a := 2) 137 d_Winds_weighAnswer_95 rfl rfl (by decide) rfl ⟨rfl, hR24 63 0 (by decide)⟩ ?_
      refine ow_gI 27 d_Winds_weighAnswer_98 rfl rfl (by decide) rfl (Or.inl rfl) ?_
      refine ow_i2l d_Winds_weighAnswer_101 ?_
      refine ow_lmul d_Winds_weighAnswer_102 ?_
      refine ow_ladd d_Winds_weighAnswer_103 ?_
      refine ow_pJ 143 d_Winds_weighAnswer_104 rfl rfl (by decide) rfl rfl rfl ?_
      obtain ⟨J26, eJ26⟩ : ∃ uu, uu = ow_u J25 63 4 (((((J24 63 3) + (J24 63 4)) - (0 + (J16 63 3))) * (Int32.toInt64 (100 - (I24 2 0)))) + ((0 + (J16 63 3)) * (Int32.toInt64 (I24 2 0)))) := ⟨_, rfl⟩
      replace T := T J26 eJ26
      rw [← eJ26]
      refine ow_aload_n 2 rfl d_Winds_weighAnswer_107 ?_
      refine ow_dup rfl d_Winds_weighAnswer_108 ?_
      refine ow_gJ 145 d_Winds_weighAnswer_109 rfl rfl (by decide) rfl rfl ?_
      refine ow_ldc2 (v := 100) d_Winds_weighAnswer_112 k_Winds_62 ?_
      refine ow_lmul d_Winds_weighAnswer_115 ?_
      refine ow_pJ 145 d_Winds_weighAnswer_116 rfl rfl (by decide) rfl rfl rfl ?_
      obtain ⟨J27, eJ27⟩ : ∃ uu, uu = ow_u J26 63 5 ((J26 63 5) * 100) := ⟨_, rfl⟩
      replace T := T J27 eJ27
      rw [← eJ27]
      exact ow_vret d_Winds_weighAnswer_119 rfl T
    · replace T := T.2 c
      refine ow_lload_n 0 rfl d_Winds_weighAnswer_29 ?_
      refine ow_aload_n 1 rfl d_Winds_weighAnswer_30 ?_
      refine ow_gJ 143 d_Winds_weighAnswer_31 rfl rfl (by decide) rfl rfl ?_
      refine ow_ladd d_Winds_weighAnswer_34 ?_
      refine ow_lstore_n (ls2 := [(3, .long ((0 + (J16 63 3)) + (J24 63 4))), (0, .ref 63), (1, .ref 29), (2, .int p1)]) d_Winds_weighAnswer_35 (by decide) rfl ?_
      refine ow_aload_n 1 rfl d_Winds_weighAnswer_36 ?_
      refine ow_gJ 141 d_Winds_weighAnswer_37 rfl rfl (by decide) rfl rfl ?_
      refine ow_aload_n 1 rfl d_Winds_weighAnswer_40 ?_
      refine ow_gJ 143 d_Winds_weighAnswer_41 rfl rfl (by decide) rfl rfl ?_
      refine ow_ladd d_Winds_weighAnswer_44 ?_
      refine ow_lload_n 0 rfl d_Winds_weighAnswer_45 ?_
      refine ow_lsub d_Winds_weighAnswer_46 ?_
      refine ow_lstore (ls2 := [(5, .long (((J24 63 3) + (J24 63 4)) - ((0 + (J16 63 3)) + (J24 63 4)))), (3, .long ((0 + (J16 63 3)) + (J24 63 4))), (0, .ref 63), (1, .ref 29), (2, .int p1)]) d_Winds_weighAnswer_47 (by decide) rfl ?_
      refine ow_aload_n 2 rfl d_Winds_weighAnswer_49 ?_
      refine ow_lload_n 1 rfl d_Winds_weighAnswer_50 ?_
      refine ow_bipush (v := 100) (by decide) d_Winds_weighAnswer_51 ?_
      refine ow_aload_n 2 rfl d_Winds_weighAnswer_53 ?_
      refine ow_gR (a := 2) 137 d_Winds_weighAnswer_54 rfl rfl (by decide) rfl ⟨rfl, hR24 63 0 (by decide)⟩ ?_
      refine ow_gI 27 d_Winds_weighAnswer_57 rfl rfl (by decide) rfl (Or.inl rfl) ?_
      refine ow_isub d_Winds_weighAnswer_60 ?_
      refine ow_i2l d_Winds_weighAnswer_61 ?_
      refine ow_lmul d_Winds_weighAnswer_62 ?_
      refine ow_lload 0 rfl d_Winds_weighAnswer_63 ?_
      refine ow_aload_n 2 rfl d_Winds_weighAnswer_65 ?_
      refine ow_gR (a := 2) 137 d_Winds_weighAnswer_66 rfl rfl (by decide) rfl ⟨rfl, hR24 63 0 (by decide)⟩ ?_
      refine ow_gI 27 d_Winds_weighAnswer_69 rfl rfl (by decide) rfl (Or.inl rfl) ?_
      refine ow_i2l d_Winds_weighAnswer_72 ?_
      refine ow_lmul d_Winds_weighAnswer_73 ?_
      refine ow_ladd d_Winds_weighAnswer_74 ?_
      refine ow_pJ 141 d_Winds_weighAnswer_75 rfl rfl (by decide) rfl rfl rfl ?_
      obtain ⟨J28, eJ28⟩ : ∃ uu, uu = ow_u J24 63 3 ((((0 + (J16 63 3)) + (J24 63 4)) * (Int32.toInt64 (100 - (I24 2 0)))) + ((((J24 63 3) + (J24 63 4)) - ((0 + (J16 63 3)) + (J24 63 4))) * (Int32.toInt64 (I24 2 0)))) := ⟨_, rfl⟩
      replace T := T J28 eJ28
      rw [← eJ28]
      refine ow_aload_n 2 rfl d_Winds_weighAnswer_78 ?_
      refine ow_lload 0 rfl d_Winds_weighAnswer_79 ?_
      refine ow_bipush (v := 100) (by decide) d_Winds_weighAnswer_81 ?_
      refine ow_aload_n 2 rfl d_Winds_weighAnswer_83 ?_
      refine ow_gR (a := 2) 137 d_Winds_weighAnswer_84 rfl rfl (by decide) rfl ⟨rfl, hR24 63 0 (by decide)⟩ ?_
      refine ow_gI 27 d_Winds_weighAnswer_87 rfl rfl (by decide) rfl (Or.inl rfl) ?_
      refine ow_isub d_Winds_weighAnswer_90 ?_
      refine ow_i2l d_Winds_weighAnswer_91 ?_
      refine ow_lmul d_Winds_weighAnswer_92 ?_
      refine ow_lload_n 1 rfl d_Winds_weighAnswer_93 ?_
      refine ow_aload_n 2 rfl d_Winds_weighAnswer_94 ?_
      refine ow_gR (a := 2) 137 d_Winds_weighAnswer_95 rfl rfl (by decide) rfl ⟨rfl, hR24 63 0 (by decide)⟩ ?_
      refine ow_gI 27 d_Winds_weighAnswer_98 rfl rfl (by decide) rfl (Or.inl rfl) ?_
      refine ow_i2l d_Winds_weighAnswer_101 ?_
      refine ow_lmul d_Winds_weighAnswer_102 ?_
      refine ow_ladd d_Winds_weighAnswer_103 ?_
      refine ow_pJ 143 d_Winds_weighAnswer_104 rfl rfl (by decide) rfl rfl rfl ?_
      obtain ⟨J29, eJ29⟩ : ∃ uu, uu = ow_u J28 63 4 (((((J24 63 3) + (J24 63 4)) - ((0 + (J16 63 3)) + (J24 63 4))) * (Int32.toInt64 (100 - (I24 2 0)))) + (((0 + (J16 63 3)) + (J24 63 4)) * (Int32.toInt64 (I24 2 0)))) := ⟨_, rfl⟩
      replace T := T J29 eJ29
      rw [← eJ29]
      refine ow_aload_n 2 rfl d_Winds_weighAnswer_107 ?_
      refine ow_dup rfl d_Winds_weighAnswer_108 ?_
      refine ow_gJ 145 d_Winds_weighAnswer_109 rfl rfl (by decide) rfl rfl ?_
      refine ow_ldc2 (v := 100) d_Winds_weighAnswer_112 k_Winds_62 ?_
      refine ow_lmul d_Winds_weighAnswer_115 ?_
      refine ow_pJ 145 d_Winds_weighAnswer_116 rfl rfl (by decide) rfl rfl rfl ?_
      obtain ⟨J30, eJ30⟩ : ∃ uu, uu = ow_u J29 63 5 ((J29 63 5) * 100) := ⟨_, rfl⟩
      replace T := T J30 eJ30
      rw [← eJ30]
      exact ow_vret d_Winds_weighAnswer_119 rfl T
set_option maxRecDepth 4000 in
theorem t_Winds_blow_39 {d : Nat} {I : Nat → Nat → Int32} {J : Nat → Nat → Int64} {R : Nat → Nat → Option Nat} {Q : Option Value → ow_H → Prop}  {v4 : Int32} {v5 : Int32}  (hR : ow_RF R) (T : (((I 64 1) ≤ v5 → Q (some (.int v4)) (85, I, J, R)) ∧ (¬ (I 64 1) ≤ v5 → (vp_in v5 6 ∧ (ow_AM M_Scene_reply d [.ref 29, .int (I 65 v5.toNatClampNeg), .int v4] (85, I, J, R) (fun r h' => ∃ (r2 : Int32) (I2 : Nat → Nat → Int32) (J2 : Nat → Nat → Int64) (R2 : Nat → Nat → Option Nat), r = some (.int r2) ∧ h' = (85, I2, J2, R2) ∧ ow_RF R2 ∧ (∀ (I3 : Nat → Nat → Int32), I3 = ow_u I2 63 2 (((75 * (I2 63 2)) + 74) - ((75 * (I2 63 2)) + 74) / 65537 * 65537) → (((I3 2 0) ≤ ((I3 63 2) - (I3 63 2) / 100 * 100) → ow_AW ow_Y0 (ow_Z Q) M_Winds_blow (d + 1) 0 0 39 [(0, .ref 63), (1, .ref 29), (4, .int r2), (5, .int (v5 + 1))] [] (85, I3, J2, R2) 0 0) ∧ (¬ (I3 2 0) ≤ ((I3 63 2) - (I3 63 2) / 100 * 100) → ow_AW ow_Y0 (ow_Z Q) M_Winds_blow (d + 1) 0 0 39 [(0, .ref 63), (1, .ref 29), (4, .int (1 - r2)), (5, .int (v5 + 1))] [] (85, I3, J2, R2) 0 0))))))))) : ow_AW ow_Y0 (ow_Z Q) M_Winds_blow (d + 1) 0 0 39 [(0, .ref 63), (1, .ref 29), (4, .int v4), (5, .int v5)] [] (85, I, J, R) 0 0 := by
  refine ow_iload 3 rfl d_Winds_blow_39 ?_
  refine ow_aload_n 0 rfl d_Winds_blow_41 ?_
  refine ow_gR (a := 64) 138 d_Winds_blow_42 rfl rfl (by decide) rfl ⟨rfl, hR 63 1 (by decide)⟩ ?_
  refine ow_gI 90 d_Winds_blow_45 rfl rfl (by decide) rfl (Or.inl rfl) ?_
  refine ow_icmp_ge (tgt := 115) d_Winds_blow_48 (by decide) (fun c => ?_) (fun c => ?_)
  · replace T := T.1 c
    refine ow_iload 2 rfl d_Winds_blow_115 ?_
    exact ow_iret d_Winds_blow_117 rfl T
  · replace T := T.2 c
    refine ow_aload_n 1 rfl d_Winds_blow_51 ?_
    refine ow_aload_n 0 rfl d_Winds_blow_52 ?_
    refine ow_gR (a := 64) 138 d_Winds_blow_53 rfl rfl (by decide) rfl ⟨rfl, hR 63 1 (by decide)⟩ ?_
    refine ow_gR (a := 65) 87 d_Winds_blow_56 rfl rfl (by decide) rfl ⟨rfl, hR 64 0 (by decide)⟩ ?_
    refine ow_iload 3 rfl d_Winds_blow_59 ?_
    obtain ⟨cI, T⟩ := T
    refine ow_hiaload d_Winds_blow_61 (by decide) rfl rfl cI ?_
    refine ow_iload 2 rfl d_Winds_blow_62 ?_
    refine ow_callV (b := 29) (cq := 4) (As := [.int (I 65 v5.toNatClampNeg), .int v4]) (rest := []) (d2 := d) d_Winds_blow_64 l_Winds_51 v_Scene_reply (show 29 < 85 by decide) rfl (by decide) rfl (Nat.le_of_ble_eq_true rfl) (Nat.le_refl _) ⟨Nat.le_refl _, Nat.le_refl _⟩ (ow_mono T ?_)
    rintro r h' ⟨r2, I2, J2, R2, rfl, rfl, hR2, T⟩
    show ow_AW ow_Y0 (ow_Z Q) M_Winds_blow (d + 1) 0 0 67 [(0, .ref 63), (1, .ref 29), (4, .int v4), (5, .int v5)] [.int r2] (85, I2, J2, R2) 0 0
    refine ow_istore (ls2 := [(4, .int r2), (0, .ref 63), (1, .ref 29), (5, .int v5)]) d_Winds_blow_67 (by decide) rfl ?_
    refine ow_aload_n 1 rfl d_Winds_blow_69 ?_
    refine ow_bipush (v := 75) (by decide) d_Winds_blow_70 ?_
    refine ow_aload_n 1 rfl d_Winds_blow_72 ?_
    refine ow_gI 139 d_Winds_blow_73 rfl rfl (by decide) rfl (Or.inl rfl) ?_
    refine ow_imul d_Winds_blow_76 ?_
    refine ow_bipush (v := 74) (by decide) d_Winds_blow_77 ?_
    refine ow_iadd d_Winds_blow_79 ?_
    refine ow_ldc (v := 65537) d_Winds_blow_80 k_Winds_67 ?_
    refine ow_irem (by decide) d_Winds_blow_82 ?_
    refine ow_pI 139 d_Winds_blow_83 rfl rfl (by decide) rfl rfl rfl ?_
    obtain ⟨I3, eI3⟩ : ∃ uu, uu = ow_u I2 63 2 (((75 * (I2 63 2)) + 74) - ((75 * (I2 63 2)) + 74) / 65537 * 65537) := ⟨_, rfl⟩
    replace T := T I3 eI3
    rw [← eI3]
    refine ow_aload_n 1 rfl d_Winds_blow_86 ?_
    refine ow_gI 139 d_Winds_blow_87 rfl rfl (by decide) rfl (Or.inl rfl) ?_
    refine ow_bipush (v := 100) (by decide) d_Winds_blow_90 ?_
    refine ow_irem (by decide) d_Winds_blow_92 ?_
    refine ow_aload_n 1 rfl d_Winds_blow_93 ?_
    refine ow_gR (a := 2) 137 d_Winds_blow_94 rfl rfl (by decide) rfl ⟨rfl, hR2 63 0 (by decide)⟩ ?_
    refine ow_gI 27 d_Winds_blow_97 rfl rfl (by decide) rfl (Or.inl rfl) ?_
    refine ow_icmp_ge (tgt := 109) d_Winds_blow_100 (by decide) (fun c => ?_) (fun c => ?_)
    · replace T := T.1 c
      refine ow_iinc 3 (v := (v5 + 1)) (ls2 := [(5, .int (v5 + 1)), (4, .int r2), (0, .ref 63), (1, .ref 29)]) d_Winds_blow_109 rfl rfl (by decide) rfl ?_
      refine ow_goto (tgt := 39) d_Winds_blow_112 (by decide) ?_
      refine ow_sub [2, 3, 1, 0] rfl ?_
      exact T
    · replace T := T.2 c
      refine ow_iconst (v := 1) (by decide) d_Winds_blow_103 ?_
      refine ow_iload 0 rfl d_Winds_blow_104 ?_
      refine ow_isub d_Winds_blow_106 ?_
      refine ow_istore (ls2 := [(4, .int (1 - r2)), (0, .ref 63), (1, .ref 29), (5, .int v5)]) d_Winds_blow_107 (by decide) rfl ?_
      refine ow_iinc 3 (v := (v5 + 1)) (ls2 := [(5, .int (v5 + 1)), (4, .int (1 - r2)), (0, .ref 63), (1, .ref 29)]) d_Winds_blow_109 rfl rfl (by decide) rfl ?_
      refine ow_goto (tgt := 39) d_Winds_blow_112 (by decide) ?_
      refine ow_sub [2, 3, 1, 0] rfl ?_
      exact T
set_option maxRecDepth 4000 in
theorem t_Winds_blow {d : Nat} {I : Nat → Nat → Int32} {J : Nat → Nat → Int64} {R : Nat → Nat → Option Nat} {Q : Option Value → ow_H → Prop} {p1 : Int32} {p2 : Int32}  (hR : ow_RF R) (T : (ow_AM M_Course_run d [.ref 64, .ref 29, .int p1, .int p2] (85, I, J, R) (fun r h' => ∃ (I4 : Nat → Nat → Int32) (J4 : Nat → Nat → Int64) (R4 : Nat → Nat → Option Nat), r = none ∧ h' = (85, I4, J4, R4) ∧ ow_RF R4 ∧ ((¬ (I4 64 4) = (-2) → ((p2 = 0 → ow_AW ow_Y0 (ow_Z Q) M_Winds_blow (d + 1) 0 0 39 [(0, .ref 63), (1, .ref 29), (4, .int 0), (5, .int 0)] [] (85, I4, J4, R4) 0 0) ∧ (¬ p2 = 0 → ow_AW ow_Y0 (ow_Z Q) M_Winds_blow (d + 1) 0 0 39 [(0, .ref 63), (1, .ref 29), (4, .int 1), (5, .int 0)] [] (85, I4, J4, R4) 0 0))) ∧ ((I4 64 4) = (-2) → Q (some (.int (-2))) (85, I4, J4, R4)))))) : ow_AM M_Winds_blow (d + 1) [.ref 63, .ref 29, .int p1, .int p2] (85, I, J, R) Q := by
  refine ow_enter (by decide) (Nat.le_of_ble_eq_true rfl) ?_
  show ow_AW ow_Y0 (ow_Z Q) M_Winds_blow (d + 1) 0 0 0 [(0, .ref 63), (1, .ref 29), (2, .int p1), (3, .int p2)] [] (85, I, J, R) 0 0
  refine ow_aload_n 0 rfl d_Winds_blow_0 ?_
  refine ow_gR (a := 64) 138 d_Winds_blow_1 rfl rfl (by decide) rfl ⟨rfl, hR 63 1 (by decide)⟩ ?_
  refine ow_aload_n 1 rfl d_Winds_blow_4 ?_
  refine ow_iload_n 2 rfl d_Winds_blow_5 ?_
  refine ow_iload_n 3 rfl d_Winds_blow_6 ?_
  refine ow_callV (b := 64) (cq := 0) (As := [.ref 29, .int p1, .int p2]) (rest := []) (d2 := d) d_Winds_blow_7 l_Winds_32 v_Course_run (show 64 < 85 by decide) rfl (by decide) rfl (Nat.le_of_ble_eq_true rfl) (Nat.le_refl _) ⟨Nat.le_refl _, Nat.le_refl _⟩ (ow_mono T ?_)
  rintro r h' ⟨I4, J4, R4, rfl, rfl, hR4, T⟩
  show ow_AW ow_Y0 (ow_Z Q) M_Winds_blow (d + 1) 0 0 10 [(0, .ref 63), (1, .ref 29), (2, .int p1), (3, .int p2)] [] (85, I4, J4, R4) 0 0
  refine ow_aload_n 0 rfl d_Winds_blow_10 ?_
  refine ow_gR (a := 64) 138 d_Winds_blow_11 rfl rfl (by decide) rfl ⟨rfl, hR4 63 1 (by decide)⟩ ?_
  refine ow_gI 99 d_Winds_blow_14 rfl rfl (by decide) rfl (Or.inl rfl) ?_
  refine ow_bipush (v := (-2)) (by decide) d_Winds_blow_17 ?_
  refine ow_icmp_ne (tgt := 25) d_Winds_blow_19 (by decide) (fun c => ?_) (fun c => ?_)
  · replace T := T.1 c
    refine ow_iload_n 3 rfl d_Winds_blow_25 ?_
    refine ow_if_eq (tgt := 33) d_Winds_blow_26 (by decide) (fun c => ?_) (fun c => ?_)
    · replace T := T.1 c
      refine ow_iconst (v := 0) (by decide) d_Winds_blow_33 ?_
      refine ow_istore (ls2 := [(4, .int 0), (0, .ref 63), (1, .ref 29), (2, .int p1), (3, .int p2)]) d_Winds_blow_34 (by decide) rfl ?_
      refine ow_iconst (v := 0) (by decide) d_Winds_blow_36 ?_
      refine ow_istore (ls2 := [(5, .int 0), (4, .int 0), (0, .ref 63), (1, .ref 29), (2, .int p1), (3, .int p2)]) d_Winds_blow_37 (by decide) rfl ?_
      refine ow_sub [2, 3, 1, 0] rfl ?_
      exact T
    · replace T := T.2 c
      refine ow_iconst (v := 1) (by decide) d_Winds_blow_29 ?_
      refine ow_goto (tgt := 34) d_Winds_blow_30 (by decide) ?_
      refine ow_istore (ls2 := [(4, .int 1), (0, .ref 63), (1, .ref 29), (2, .int p1), (3, .int p2)]) d_Winds_blow_34 (by decide) rfl ?_
      refine ow_iconst (v := 0) (by decide) d_Winds_blow_36 ?_
      refine ow_istore (ls2 := [(5, .int 0), (4, .int 1), (0, .ref 63), (1, .ref 29), (2, .int p1), (3, .int p2)]) d_Winds_blow_37 (by decide) rfl ?_
      refine ow_sub [2, 3, 1, 0] rfl ?_
      exact T
  · replace T := T.2 c
    refine ow_bipush (v := (-2)) (by decide) d_Winds_blow_22 ?_
    exact ow_iret d_Winds_blow_24 rfl T
