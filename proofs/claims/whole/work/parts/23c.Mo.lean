/-! Own rows, by program: Mo_veiledLine Mo_say Mo_signedLine Mo_fault Mo_where Mo_isFolly Mo_isEstate Mo_asToldShapes Mo_answerOf Mo_goOver Mo_signsOf Mo_estatesOf Mo_servedBy Mo_servedOn Mo_letterOf Mo_ruinIn Mo_folly Mo_estate Mo_answers Mo_signs -/
theorem d_Mo_veiledLine_0 : decode M_Mo_veiledLine.2.1 0 = .ok (.aload_n 0, 1) := by decide +kernel
theorem d_Mo_veiledLine_1 : decode M_Mo_veiledLine.2.1 1 = .ok (.getfield 91, 3) := by decide +kernel
theorem d_Mo_veiledLine_4 : decode M_Mo_veiledLine.2.1 4 = .ok (.ifCond .eq 4, 3) := by decide +kernel
theorem d_Mo_veiledLine_7 : decode M_Mo_veiledLine.2.1 7 = .ok (.return_, 1) := by decide +kernel
theorem d_Mo_veiledLine_8 : decode M_Mo_veiledLine.2.1 8 = .ok (.aload_n 0, 1) := by decide +kernel
theorem d_Mo_veiledLine_9 : decode M_Mo_veiledLine.2.1 9 = .ok (.invokevirtual 228, 3) := by decide +kernel
theorem d_Mo_veiledLine_12 : decode M_Mo_veiledLine.2.1 12 = .ok (.istore_n 1, 1) := by decide +kernel
theorem d_Mo_veiledLine_13 : decode M_Mo_veiledLine.2.1 13 = .ok (.iconst 0, 1) := by decide +kernel
theorem d_Mo_veiledLine_14 : decode M_Mo_veiledLine.2.1 14 = .ok (.istore_n 2, 1) := by decide +kernel
theorem d_Mo_veiledLine_15 : decode M_Mo_veiledLine.2.1 15 = .ok (.iload_n 2, 1) := by decide +kernel
theorem d_Mo_veiledLine_16 : decode M_Mo_veiledLine.2.1 16 = .ok (.aload_n 0, 1) := by decide +kernel
theorem d_Mo_veiledLine_17 : decode M_Mo_veiledLine.2.1 17 = .ok (.getfield 23, 3) := by decide +kernel
theorem d_Mo_veiledLine_20 : decode M_Mo_veiledLine.2.1 20 = .ok (.iconst 4, 1) := by decide +kernel
theorem d_Mo_veiledLine_21 : decode M_Mo_veiledLine.2.1 21 = .ok (.iaload, 1) := by decide +kernel
theorem d_Mo_veiledLine_22 : decode M_Mo_veiledLine.2.1 22 = .ok (.if_icmp .ge 38, 3) := by decide +kernel
theorem d_Mo_veiledLine_25 : decode M_Mo_veiledLine.2.1 25 = .ok (.aload_n 0, 1) := by decide +kernel
theorem d_Mo_veiledLine_26 : decode M_Mo_veiledLine.2.1 26 = .ok (.getfield 91, 3) := by decide +kernel
theorem d_Mo_veiledLine_29 : decode M_Mo_veiledLine.2.1 29 = .ok (.ifCond .ne 25, 3) := by decide +kernel
theorem d_Mo_veiledLine_32 : decode M_Mo_veiledLine.2.1 32 = .ok (.aload_n 0, 1) := by decide +kernel
theorem d_Mo_veiledLine_33 : decode M_Mo_veiledLine.2.1 33 = .ok (.getfield 23, 3) := by decide +kernel
theorem d_Mo_veiledLine_36 : decode M_Mo_veiledLine.2.1 36 = .ok (.bipush 29, 2) := by decide +kernel
theorem d_Mo_veiledLine_38 : decode M_Mo_veiledLine.2.1 38 = .ok (.iload_n 2, 1) := by decide +kernel
theorem d_Mo_veiledLine_39 : decode M_Mo_veiledLine.2.1 39 = .ok (.iadd, 1) := by decide +kernel
theorem d_Mo_veiledLine_40 : decode M_Mo_veiledLine.2.1 40 = .ok (.iaload, 1) := by decide +kernel
theorem d_Mo_veiledLine_41 : decode M_Mo_veiledLine.2.1 41 = .ok (.iload_n 1, 1) := by decide +kernel
theorem d_Mo_veiledLine_42 : decode M_Mo_veiledLine.2.1 42 = .ok (.if_icmp .ne 12, 3) := by decide +kernel
theorem d_Mo_veiledLine_45 : decode M_Mo_veiledLine.2.1 45 = .ok (.aload_n 0, 1) := by decide +kernel
theorem d_Mo_veiledLine_46 : decode M_Mo_veiledLine.2.1 46 = .ok (.iconst 3, 1) := by decide +kernel
theorem d_Mo_veiledLine_47 : decode M_Mo_veiledLine.2.1 47 = .ok (.aload_n 0, 1) := by decide +kernel
theorem d_Mo_veiledLine_48 : decode M_Mo_veiledLine.2.1 48 = .ok (.getfield 72, 3) := by decide +kernel
theorem d_Mo_veiledLine_51 : decode M_Mo_veiledLine.2.1 51 = .ok (.invokevirtual 118, 3) := by decide +kernel
theorem d_Mo_veiledLine_54 : decode M_Mo_veiledLine.2.1 54 = .ok (.iinc 2 1, 3) := by decide +kernel
theorem d_Mo_veiledLine_57 : decode M_Mo_veiledLine.2.1 57 = .ok (.goto (-42), 3) := by decide +kernel
theorem d_Mo_veiledLine_60 : decode M_Mo_veiledLine.2.1 60 = .ok (.aload_n 0, 1) := by decide +kernel
theorem d_Mo_veiledLine_61 : decode M_Mo_veiledLine.2.1 61 = .ok (.invokevirtual 176, 3) := by decide +kernel
theorem d_Mo_veiledLine_64 : decode M_Mo_veiledLine.2.1 64 = .ok (.aload_n 0, 1) := by decide +kernel
theorem d_Mo_veiledLine_65 : decode M_Mo_veiledLine.2.1 65 = .ok (.getfield 91, 3) := by decide +kernel
theorem d_Mo_veiledLine_68 : decode M_Mo_veiledLine.2.1 68 = .ok (.ifCond .eq 4, 3) := by decide +kernel
theorem d_Mo_veiledLine_71 : decode M_Mo_veiledLine.2.1 71 = .ok (.return_, 1) := by decide +kernel
theorem d_Mo_veiledLine_72 : decode M_Mo_veiledLine.2.1 72 = .ok (.aload_n 0, 1) := by decide +kernel
theorem d_Mo_veiledLine_73 : decode M_Mo_veiledLine.2.1 73 = .ok (.getfield 23, 3) := by decide +kernel
theorem d_Mo_veiledLine_76 : decode M_Mo_veiledLine.2.1 76 = .ok (.bipush 29, 2) := by decide +kernel
theorem d_Mo_veiledLine_78 : decode M_Mo_veiledLine.2.1 78 = .ok (.aload_n 0, 1) := by decide +kernel
theorem d_Mo_veiledLine_79 : decode M_Mo_veiledLine.2.1 79 = .ok (.getfield 23, 3) := by decide +kernel
theorem d_Mo_veiledLine_82 : decode M_Mo_veiledLine.2.1 82 = .ok (.iconst 4, 1) := by decide +kernel
theorem d_Mo_veiledLine_83 : decode M_Mo_veiledLine.2.1 83 = .ok (.iaload, 1) := by decide +kernel
theorem d_Mo_veiledLine_84 : decode M_Mo_veiledLine.2.1 84 = .ok (.iadd, 1) := by decide +kernel
theorem d_Mo_veiledLine_85 : decode M_Mo_veiledLine.2.1 85 = .ok (.iload_n 1, 1) := by decide +kernel
theorem d_Mo_veiledLine_86 : decode M_Mo_veiledLine.2.1 86 = .ok (.iastore, 1) := by decide +kernel
theorem d_Mo_veiledLine_87 : decode M_Mo_veiledLine.2.1 87 = .ok (.aload_n 0, 1) := by decide +kernel
theorem d_Mo_veiledLine_88 : decode M_Mo_veiledLine.2.1 88 = .ok (.getfield 23, 3) := by decide +kernel
theorem d_Mo_veiledLine_91 : decode M_Mo_veiledLine.2.1 91 = .ok (.iconst 4, 1) := by decide +kernel
theorem d_Mo_veiledLine_92 : decode M_Mo_veiledLine.2.1 92 = .ok (.dup2, 1) := by decide +kernel
theorem d_Mo_veiledLine_93 : decode M_Mo_veiledLine.2.1 93 = .ok (.iaload, 1) := by decide +kernel
theorem d_Mo_veiledLine_94 : decode M_Mo_veiledLine.2.1 94 = .ok (.iconst 1, 1) := by decide +kernel
theorem d_Mo_veiledLine_95 : decode M_Mo_veiledLine.2.1 95 = .ok (.iadd, 1) := by decide +kernel
theorem d_Mo_veiledLine_96 : decode M_Mo_veiledLine.2.1 96 = .ok (.iastore, 1) := by decide +kernel
theorem d_Mo_veiledLine_97 : decode M_Mo_veiledLine.2.1 97 = .ok (.return_, 1) := by decide +kernel
theorem d_Mo_say_0 : decode M_Mo_say.2.1 0 = .ok (.aload_n 0, 1) := by decide +kernel
theorem d_Mo_say_1 : decode M_Mo_say.2.1 1 = .ok (.ldc 237, 2) := by decide +kernel
theorem d_Mo_say_3 : decode M_Mo_say.2.1 3 = .ok (.invokevirtual 115, 3) := by decide +kernel
theorem d_Mo_say_6 : decode M_Mo_say.2.1 6 = .ok (.ifCond .eq 5, 3) := by decide +kernel
theorem d_Mo_say_9 : decode M_Mo_say.2.1 9 = .ok (.iconst 1, 1) := by decide +kernel
theorem d_Mo_say_10 : decode M_Mo_say.2.1 10 = .ok (.ireturn, 1) := by decide +kernel
theorem d_Mo_say_11 : decode M_Mo_say.2.1 11 = .ok (.aload_n 0, 1) := by decide +kernel
theorem d_Mo_say_12 : decode M_Mo_say.2.1 12 = .ok (.ldc 239, 2) := by decide +kernel
theorem d_Mo_say_14 : decode M_Mo_say.2.1 14 = .ok (.invokevirtual 146, 3) := by decide +kernel
theorem d_Mo_say_17 : decode M_Mo_say.2.1 17 = .ok (.iconst 0, 1) := by decide +kernel
theorem d_Mo_say_18 : decode M_Mo_say.2.1 18 = .ok (.ireturn, 1) := by decide +kernel
theorem d_Mo_signedLine_0 : decode M_Mo_signedLine.2.1 0 = .ok (.aload_n 0, 1) := by decide +kernel
theorem d_Mo_signedLine_1 : decode M_Mo_signedLine.2.1 1 = .ok (.getfield 91, 3) := by decide +kernel
theorem d_Mo_signedLine_4 : decode M_Mo_signedLine.2.1 4 = .ok (.ifCond .eq 4, 3) := by decide +kernel
theorem d_Mo_signedLine_7 : decode M_Mo_signedLine.2.1 7 = .ok (.return_, 1) := by decide +kernel
theorem d_Mo_signedLine_8 : decode M_Mo_signedLine.2.1 8 = .ok (.bipush 32, 2) := by decide +kernel
theorem d_Mo_signedLine_10 : decode M_Mo_signedLine.2.1 10 = .ok (.iconst 3, 1) := by decide +kernel
theorem d_Mo_signedLine_11 : decode M_Mo_signedLine.2.1 11 = .ok (.aload_n 0, 1) := by decide +kernel
theorem d_Mo_signedLine_12 : decode M_Mo_signedLine.2.1 12 = .ok (.getfield 23, 3) := by decide +kernel
theorem d_Mo_signedLine_15 : decode M_Mo_signedLine.2.1 15 = .ok (.iconst 5, 1) := by decide +kernel
theorem d_Mo_signedLine_16 : decode M_Mo_signedLine.2.1 16 = .ok (.iaload, 1) := by decide +kernel
theorem d_Mo_signedLine_17 : decode M_Mo_signedLine.2.1 17 = .ok (.imul, 1) := by decide +kernel
theorem d_Mo_signedLine_18 : decode M_Mo_signedLine.2.1 18 = .ok (.iadd, 1) := by decide +kernel
theorem d_Mo_signedLine_19 : decode M_Mo_signedLine.2.1 19 = .ok (.istore_n 1, 1) := by decide +kernel
theorem d_Mo_signedLine_20 : decode M_Mo_signedLine.2.1 20 = .ok (.aload_n 0, 1) := by decide +kernel
theorem d_Mo_signedLine_21 : decode M_Mo_signedLine.2.1 21 = .ok (.getfield 23, 3) := by decide +kernel
theorem d_Mo_signedLine_24 : decode M_Mo_signedLine.2.1 24 = .ok (.iload_n 1, 1) := by decide +kernel
theorem d_Mo_signedLine_25 : decode M_Mo_signedLine.2.1 25 = .ok (.aload_n 0, 1) := by decide +kernel
theorem d_Mo_signedLine_26 : decode M_Mo_signedLine.2.1 26 = .ok (.invokevirtual 228, 3) := by decide +kernel
theorem d_Mo_signedLine_29 : decode M_Mo_signedLine.2.1 29 = .ok (.iastore, 1) := by decide +kernel
theorem d_Mo_signedLine_30 : decode M_Mo_signedLine.2.1 30 = .ok (.aload_n 0, 1) := by decide +kernel
theorem d_Mo_signedLine_31 : decode M_Mo_signedLine.2.1 31 = .ok (.invokevirtual 176, 3) := by decide +kernel
theorem d_Mo_signedLine_34 : decode M_Mo_signedLine.2.1 34 = .ok (.aload_n 0, 1) := by decide +kernel
theorem d_Mo_signedLine_35 : decode M_Mo_signedLine.2.1 35 = .ok (.getfield 23, 3) := by decide +kernel
theorem d_Mo_signedLine_38 : decode M_Mo_signedLine.2.1 38 = .ok (.iload_n 1, 1) := by decide +kernel
theorem d_Mo_signedLine_39 : decode M_Mo_signedLine.2.1 39 = .ok (.iconst 1, 1) := by decide +kernel
theorem d_Mo_signedLine_40 : decode M_Mo_signedLine.2.1 40 = .ok (.iadd, 1) := by decide +kernel
theorem d_Mo_signedLine_41 : decode M_Mo_signedLine.2.1 41 = .ok (.aload_n 0, 1) := by decide +kernel
theorem d_Mo_signedLine_42 : decode M_Mo_signedLine.2.1 42 = .ok (.invokevirtual 240, 3) := by decide +kernel
theorem d_Mo_signedLine_45 : decode M_Mo_signedLine.2.1 45 = .ok (.iastore, 1) := by decide +kernel
theorem d_Mo_signedLine_46 : decode M_Mo_signedLine.2.1 46 = .ok (.aload_n 0, 1) := by decide +kernel
theorem d_Mo_signedLine_47 : decode M_Mo_signedLine.2.1 47 = .ok (.getfield 23, 3) := by decide +kernel
theorem d_Mo_signedLine_50 : decode M_Mo_signedLine.2.1 50 = .ok (.iload_n 1, 1) := by decide +kernel
theorem d_Mo_signedLine_51 : decode M_Mo_signedLine.2.1 51 = .ok (.iconst 2, 1) := by decide +kernel
theorem d_Mo_signedLine_52 : decode M_Mo_signedLine.2.1 52 = .ok (.iadd, 1) := by decide +kernel
theorem d_Mo_signedLine_53 : decode M_Mo_signedLine.2.1 53 = .ok (.aload_n 0, 1) := by decide +kernel
theorem d_Mo_signedLine_54 : decode M_Mo_signedLine.2.1 54 = .ok (.ldc 243, 2) := by decide +kernel
theorem d_Mo_signedLine_56 : decode M_Mo_signedLine.2.1 56 = .ok (.invokevirtual 115, 3) := by decide +kernel
theorem d_Mo_signedLine_59 : decode M_Mo_signedLine.2.1 59 = .ok (.ifCond .eq 8, 3) := by decide +kernel
theorem d_Mo_signedLine_62 : decode M_Mo_signedLine.2.1 62 = .ok (.bipush (-2), 2) := by decide +kernel
theorem d_Mo_signedLine_64 : decode M_Mo_signedLine.2.1 64 = .ok (.goto 7, 3) := by decide +kernel
theorem d_Mo_signedLine_67 : decode M_Mo_signedLine.2.1 67 = .ok (.aload_n 0, 1) := by decide +kernel
theorem d_Mo_signedLine_68 : decode M_Mo_signedLine.2.1 68 = .ok (.invokevirtual 240, 3) := by decide +kernel
theorem d_Mo_signedLine_71 : decode M_Mo_signedLine.2.1 71 = .ok (.iastore, 1) := by decide +kernel
theorem d_Mo_signedLine_72 : decode M_Mo_signedLine.2.1 72 = .ok (.aload_n 0, 1) := by decide +kernel
theorem d_Mo_signedLine_73 : decode M_Mo_signedLine.2.1 73 = .ok (.getfield 91, 3) := by decide +kernel
theorem d_Mo_signedLine_76 : decode M_Mo_signedLine.2.1 76 = .ok (.ifCond .ne 13, 3) := by decide +kernel
theorem d_Mo_signedLine_79 : decode M_Mo_signedLine.2.1 79 = .ok (.aload_n 0, 1) := by decide +kernel
theorem d_Mo_signedLine_80 : decode M_Mo_signedLine.2.1 80 = .ok (.getfield 23, 3) := by decide +kernel
theorem d_Mo_signedLine_83 : decode M_Mo_signedLine.2.1 83 = .ok (.iconst 5, 1) := by decide +kernel
theorem d_Mo_signedLine_84 : decode M_Mo_signedLine.2.1 84 = .ok (.dup2, 1) := by decide +kernel
theorem d_Mo_signedLine_85 : decode M_Mo_signedLine.2.1 85 = .ok (.iaload, 1) := by decide +kernel
theorem d_Mo_signedLine_86 : decode M_Mo_signedLine.2.1 86 = .ok (.iconst 1, 1) := by decide +kernel
theorem d_Mo_signedLine_87 : decode M_Mo_signedLine.2.1 87 = .ok (.iadd, 1) := by decide +kernel
theorem d_Mo_signedLine_88 : decode M_Mo_signedLine.2.1 88 = .ok (.iastore, 1) := by decide +kernel
theorem d_Mo_signedLine_89 : decode M_Mo_signedLine.2.1 89 = .ok (.return_, 1) := by decide +kernel
theorem d_Mo_fault_0 : decode M_Mo_fault.2.1 0 = .ok (.aload_n 0, 1) := by decide +kernel
theorem d_Mo_fault_1 : decode M_Mo_fault.2.1 1 = .ok (.iconst 0, 1) := by decide +kernel
theorem d_Mo_fault_2 : decode M_Mo_fault.2.1 2 = .ok (.putfield 53, 3) := by decide +kernel
theorem d_Mo_fault_5 : decode M_Mo_fault.2.1 5 = .ok (.aload_n 0, 1) := by decide +kernel
theorem d_Mo_fault_6 : decode M_Mo_fault.2.1 6 = .ok (.getfield 95, 3) := by decide +kernel
theorem d_Mo_fault_9 : decode M_Mo_fault.2.1 9 = .ok (.ireturn, 1) := by decide +kernel
theorem d_Mo_where_0 : decode M_Mo_where.2.1 0 = .ok (.aload_n 0, 1) := by decide +kernel
theorem d_Mo_where_1 : decode M_Mo_where.2.1 1 = .ok (.iconst 0, 1) := by decide +kernel
theorem d_Mo_where_2 : decode M_Mo_where.2.1 2 = .ok (.putfield 53, 3) := by decide +kernel
theorem d_Mo_where_5 : decode M_Mo_where.2.1 5 = .ok (.aload_n 0, 1) := by decide +kernel
theorem d_Mo_where_6 : decode M_Mo_where.2.1 6 = .ok (.getfield 56, 3) := by decide +kernel
theorem d_Mo_where_9 : decode M_Mo_where.2.1 9 = .ok (.iconst 4, 1) := by decide +kernel
theorem d_Mo_where_10 : decode M_Mo_where.2.1 10 = .ok (.if_icmp .ne 10, 3) := by decide +kernel
theorem d_Mo_where_13 : decode M_Mo_where.2.1 13 = .ok (.aload_n 0, 1) := by decide +kernel
theorem d_Mo_where_14 : decode M_Mo_where.2.1 14 = .ok (.getfield 13, 3) := by decide +kernel
theorem d_Mo_where_17 : decode M_Mo_where.2.1 17 = .ok (.goto 4, 3) := by decide +kernel
theorem d_Mo_where_20 : decode M_Mo_where.2.1 20 = .ok (.iconst (-1), 1) := by decide +kernel
theorem d_Mo_where_21 : decode M_Mo_where.2.1 21 = .ok (.ireturn, 1) := by decide +kernel
theorem d_Mo_isFolly_0 : decode M_Mo_isFolly.2.1 0 = .ok (.aload_n 0, 1) := by decide +kernel
theorem d_Mo_isFolly_1 : decode M_Mo_isFolly.2.1 1 = .ok (.getfield 167, 3) := by decide +kernel
theorem d_Mo_isFolly_4 : decode M_Mo_isFolly.2.1 4 = .ok (.ifCond .eq 23, 3) := by decide +kernel
theorem d_Mo_isFolly_7 : decode M_Mo_isFolly.2.1 7 = .ok (.iload_n 1, 1) := by decide +kernel
theorem d_Mo_isFolly_8 : decode M_Mo_isFolly.2.1 8 = .ok (.iconst 0, 1) := by decide +kernel
theorem d_Mo_isFolly_9 : decode M_Mo_isFolly.2.1 9 = .ok (.aload_n 0, 1) := by decide +kernel
theorem d_Mo_isFolly_10 : decode M_Mo_isFolly.2.1 10 = .ok (.getfield 20, 3) := by decide +kernel
theorem d_Mo_isFolly_13 : decode M_Mo_isFolly.2.1 13 = .ok (.iconst 2, 1) := by decide +kernel
theorem d_Mo_isFolly_14 : decode M_Mo_isFolly.2.1 14 = .ok (.iaload, 1) := by decide +kernel
theorem d_Mo_isFolly_15 : decode M_Mo_isFolly.2.1 15 = .ok (.iconst 1, 1) := by decide +kernel
theorem d_Mo_isFolly_16 : decode M_Mo_isFolly.2.1 16 = .ok (.isub, 1) := by decide +kernel
theorem d_Mo_isFolly_17 : decode M_Mo_isFolly.2.1 17 = .ok (.invokestatic 142, 3) := by decide +kernel
theorem d_Mo_isFolly_20 : decode M_Mo_isFolly.2.1 20 = .ok (.ifCond .eq 7, 3) := by decide +kernel
theorem d_Mo_isFolly_23 : decode M_Mo_isFolly.2.1 23 = .ok (.iconst 1, 1) := by decide +kernel
theorem d_Mo_isFolly_24 : decode M_Mo_isFolly.2.1 24 = .ok (.goto 4, 3) := by decide +kernel
theorem d_Mo_isFolly_27 : decode M_Mo_isFolly.2.1 27 = .ok (.iconst 0, 1) := by decide +kernel
theorem d_Mo_isFolly_28 : decode M_Mo_isFolly.2.1 28 = .ok (.ireturn, 1) := by decide +kernel
theorem d_Mo_isEstate_0 : decode M_Mo_isEstate.2.1 0 = .ok (.aload_n 0, 1) := by decide +kernel
theorem d_Mo_isEstate_1 : decode M_Mo_isEstate.2.1 1 = .ok (.getfield 167, 3) := by decide +kernel
theorem d_Mo_isEstate_4 : decode M_Mo_isEstate.2.1 4 = .ok (.ifCond .eq 23, 3) := by decide +kernel
theorem d_Mo_isEstate_7 : decode M_Mo_isEstate.2.1 7 = .ok (.iload_n 1, 1) := by decide +kernel
theorem d_Mo_isEstate_8 : decode M_Mo_isEstate.2.1 8 = .ok (.iconst 0, 1) := by decide +kernel
theorem d_Mo_isEstate_9 : decode M_Mo_isEstate.2.1 9 = .ok (.aload_n 0, 1) := by decide +kernel
theorem d_Mo_isEstate_10 : decode M_Mo_isEstate.2.1 10 = .ok (.getfield 20, 3) := by decide +kernel
theorem d_Mo_isEstate_13 : decode M_Mo_isEstate.2.1 13 = .ok (.iconst 3, 1) := by decide +kernel
theorem d_Mo_isEstate_14 : decode M_Mo_isEstate.2.1 14 = .ok (.iaload, 1) := by decide +kernel
theorem d_Mo_isEstate_15 : decode M_Mo_isEstate.2.1 15 = .ok (.iconst 1, 1) := by decide +kernel
theorem d_Mo_isEstate_16 : decode M_Mo_isEstate.2.1 16 = .ok (.isub, 1) := by decide +kernel
theorem d_Mo_isEstate_17 : decode M_Mo_isEstate.2.1 17 = .ok (.invokestatic 142, 3) := by decide +kernel
theorem d_Mo_isEstate_20 : decode M_Mo_isEstate.2.1 20 = .ok (.ifCond .eq 7, 3) := by decide +kernel
theorem d_Mo_isEstate_23 : decode M_Mo_isEstate.2.1 23 = .ok (.iconst 1, 1) := by decide +kernel
theorem d_Mo_isEstate_24 : decode M_Mo_isEstate.2.1 24 = .ok (.goto 4, 3) := by decide +kernel
theorem d_Mo_isEstate_27 : decode M_Mo_isEstate.2.1 27 = .ok (.iconst 0, 1) := by decide +kernel
theorem d_Mo_isEstate_28 : decode M_Mo_isEstate.2.1 28 = .ok (.ireturn, 1) := by decide +kernel
theorem d_Mo_asToldShapes_0 : decode M_Mo_asToldShapes.2.1 0 = .ok (.iconst 0, 1) := by decide +kernel
theorem d_Mo_asToldShapes_1 : decode M_Mo_asToldShapes.2.1 1 = .ok (.istore_n 1, 1) := by decide +kernel
theorem d_Mo_asToldShapes_2 : decode M_Mo_asToldShapes.2.1 2 = .ok (.iload_n 1, 1) := by decide +kernel
theorem d_Mo_asToldShapes_3 : decode M_Mo_asToldShapes.2.1 3 = .ok (.aload_n 0, 1) := by decide +kernel
theorem d_Mo_asToldShapes_4 : decode M_Mo_asToldShapes.2.1 4 = .ok (.getfield 20, 3) := by decide +kernel
theorem d_Mo_asToldShapes_7 : decode M_Mo_asToldShapes.2.1 7 = .ok (.iconst 2, 1) := by decide +kernel
theorem d_Mo_asToldShapes_8 : decode M_Mo_asToldShapes.2.1 8 = .ok (.iaload, 1) := by decide +kernel
theorem d_Mo_asToldShapes_9 : decode M_Mo_asToldShapes.2.1 9 = .ok (.if_icmp .ge 26, 3) := by decide +kernel
theorem d_Mo_asToldShapes_12 : decode M_Mo_asToldShapes.2.1 12 = .ok (.aload_n 0, 1) := by decide +kernel
theorem d_Mo_asToldShapes_13 : decode M_Mo_asToldShapes.2.1 13 = .ok (.getfield 41, 3) := by decide +kernel
theorem d_Mo_asToldShapes_16 : decode M_Mo_asToldShapes.2.1 16 = .ok (.iload_n 1, 1) := by decide +kernel
theorem d_Mo_asToldShapes_17 : decode M_Mo_asToldShapes.2.1 17 = .ok (.aload_n 0, 1) := by decide +kernel
theorem d_Mo_asToldShapes_18 : decode M_Mo_asToldShapes.2.1 18 = .ok (.getfield 20, 3) := by decide +kernel
theorem d_Mo_asToldShapes_21 : decode M_Mo_asToldShapes.2.1 21 = .ok (.bipush 7, 2) := by decide +kernel
theorem d_Mo_asToldShapes_23 : decode M_Mo_asToldShapes.2.1 23 = .ok (.iconst 2, 1) := by decide +kernel
theorem d_Mo_asToldShapes_24 : decode M_Mo_asToldShapes.2.1 24 = .ok (.iload_n 1, 1) := by decide +kernel
theorem d_Mo_asToldShapes_25 : decode M_Mo_asToldShapes.2.1 25 = .ok (.imul, 1) := by decide +kernel
theorem d_Mo_asToldShapes_26 : decode M_Mo_asToldShapes.2.1 26 = .ok (.iadd, 1) := by decide +kernel
theorem d_Mo_asToldShapes_27 : decode M_Mo_asToldShapes.2.1 27 = .ok (.iaload, 1) := by decide +kernel
theorem d_Mo_asToldShapes_28 : decode M_Mo_asToldShapes.2.1 28 = .ok (.iastore, 1) := by decide +kernel
theorem d_Mo_asToldShapes_29 : decode M_Mo_asToldShapes.2.1 29 = .ok (.iinc 1 1, 3) := by decide +kernel
theorem d_Mo_asToldShapes_32 : decode M_Mo_asToldShapes.2.1 32 = .ok (.goto (-30), 3) := by decide +kernel
theorem d_Mo_asToldShapes_35 : decode M_Mo_asToldShapes.2.1 35 = .ok (.return_, 1) := by decide +kernel
theorem d_Mo_answerOf_0 : decode M_Mo_answerOf.2.1 0 = .ok (.aload_n 0, 1) := by decide +kernel
theorem d_Mo_answerOf_1 : decode M_Mo_answerOf.2.1 1 = .ok (.getfield 41, 3) := by decide +kernel
theorem d_Mo_answerOf_4 : decode M_Mo_answerOf.2.1 4 = .ok (.iload_n 2, 1) := by decide +kernel
theorem d_Mo_answerOf_5 : decode M_Mo_answerOf.2.1 5 = .ok (.iaload, 1) := by decide +kernel
theorem d_Mo_answerOf_6 : decode M_Mo_answerOf.2.1 6 = .ok (.istore 4, 2) := by decide +kernel
theorem d_Mo_answerOf_8 : decode M_Mo_answerOf.2.1 8 = .ok (.aload_n 1, 1) := by decide +kernel
theorem d_Mo_answerOf_9 : decode M_Mo_answerOf.2.1 9 = .ok (.iload_n 2, 1) := by decide +kernel
theorem d_Mo_answerOf_10 : decode M_Mo_answerOf.2.1 10 = .ok (.iaload, 1) := by decide +kernel
theorem d_Mo_answerOf_11 : decode M_Mo_answerOf.2.1 11 = .ok (.ifCond .ne 6, 3) := by decide +kernel
theorem d_Mo_answerOf_14 : decode M_Mo_answerOf.2.1 14 = .ok (.bipush (-2), 2) := by decide +kernel
theorem d_Mo_answerOf_16 : decode M_Mo_answerOf.2.1 16 = .ok (.ireturn, 1) := by decide +kernel
theorem d_Mo_answerOf_17 : decode M_Mo_answerOf.2.1 17 = .ok (.aload_n 1, 1) := by decide +kernel
theorem d_Mo_answerOf_18 : decode M_Mo_answerOf.2.1 18 = .ok (.bipush 12, 2) := by decide +kernel
theorem d_Mo_answerOf_20 : decode M_Mo_answerOf.2.1 20 = .ok (.iaload, 1) := by decide +kernel
theorem d_Mo_answerOf_21 : decode M_Mo_answerOf.2.1 21 = .ok (.iload_n 2, 1) := by decide +kernel
theorem d_Mo_answerOf_22 : decode M_Mo_answerOf.2.1 22 = .ok (.invokestatic 231, 3) := by decide +kernel
theorem d_Mo_answerOf_25 : decode M_Mo_answerOf.2.1 25 = .ok (.ifCond .eq 5, 3) := by decide +kernel
theorem d_Mo_answerOf_28 : decode M_Mo_answerOf.2.1 28 = .ok (.iconst 0, 1) := by decide +kernel
theorem d_Mo_answerOf_29 : decode M_Mo_answerOf.2.1 29 = .ok (.ireturn, 1) := by decide +kernel
theorem d_Mo_answerOf_30 : decode M_Mo_answerOf.2.1 30 = .ok (.iload 4, 2) := by decide +kernel
theorem d_Mo_answerOf_32 : decode M_Mo_answerOf.2.1 32 = .ok (.ifCond .ne 5, 3) := by decide +kernel
theorem d_Mo_answerOf_35 : decode M_Mo_answerOf.2.1 35 = .ok (.iload_n 3, 1) := by decide +kernel
theorem d_Mo_answerOf_36 : decode M_Mo_answerOf.2.1 36 = .ok (.ireturn, 1) := by decide +kernel
theorem d_Mo_answerOf_37 : decode M_Mo_answerOf.2.1 37 = .ok (.iload 4, 2) := by decide +kernel
theorem d_Mo_answerOf_39 : decode M_Mo_answerOf.2.1 39 = .ok (.iconst 1, 1) := by decide +kernel
theorem d_Mo_answerOf_40 : decode M_Mo_answerOf.2.1 40 = .ok (.if_icmp .ne 7, 3) := by decide +kernel
theorem d_Mo_answerOf_43 : decode M_Mo_answerOf.2.1 43 = .ok (.iconst 1, 1) := by decide +kernel
theorem d_Mo_answerOf_44 : decode M_Mo_answerOf.2.1 44 = .ok (.iload_n 3, 1) := by decide +kernel
theorem d_Mo_answerOf_45 : decode M_Mo_answerOf.2.1 45 = .ok (.isub, 1) := by decide +kernel
theorem d_Mo_answerOf_46 : decode M_Mo_answerOf.2.1 46 = .ok (.ireturn, 1) := by decide +kernel
theorem d_Mo_answerOf_47 : decode M_Mo_answerOf.2.1 47 = .ok (.iload 4, 2) := by decide +kernel
theorem d_Mo_answerOf_49 : decode M_Mo_answerOf.2.1 49 = .ok (.iconst 2, 1) := by decide +kernel
theorem d_Mo_answerOf_50 : decode M_Mo_answerOf.2.1 50 = .ok (.if_icmp .ne 5, 3) := by decide +kernel
theorem d_Mo_answerOf_53 : decode M_Mo_answerOf.2.1 53 = .ok (.iconst 1, 1) := by decide +kernel
theorem d_Mo_answerOf_54 : decode M_Mo_answerOf.2.1 54 = .ok (.ireturn, 1) := by decide +kernel
theorem d_Mo_answerOf_55 : decode M_Mo_answerOf.2.1 55 = .ok (.iload 4, 2) := by decide +kernel
theorem d_Mo_answerOf_57 : decode M_Mo_answerOf.2.1 57 = .ok (.iconst 3, 1) := by decide +kernel
theorem d_Mo_answerOf_58 : decode M_Mo_answerOf.2.1 58 = .ok (.if_icmp .ne 20, 3) := by decide +kernel
theorem d_Mo_answerOf_61 : decode M_Mo_answerOf.2.1 61 = .ok (.aload_n 1, 1) := by decide +kernel
theorem d_Mo_answerOf_62 : decode M_Mo_answerOf.2.1 62 = .ok (.bipush 13, 2) := by decide +kernel
theorem d_Mo_answerOf_64 : decode M_Mo_answerOf.2.1 64 = .ok (.iaload, 1) := by decide +kernel
theorem d_Mo_answerOf_65 : decode M_Mo_answerOf.2.1 65 = .ok (.iconst 2, 1) := by decide +kernel
theorem d_Mo_answerOf_66 : decode M_Mo_answerOf.2.1 66 = .ok (.irem, 1) := by decide +kernel
theorem d_Mo_answerOf_67 : decode M_Mo_answerOf.2.1 67 = .ok (.ifCond .ne 7, 3) := by decide +kernel
theorem d_Mo_answerOf_70 : decode M_Mo_answerOf.2.1 70 = .ok (.iload_n 3, 1) := by decide +kernel
theorem d_Mo_answerOf_71 : decode M_Mo_answerOf.2.1 71 = .ok (.goto 6, 3) := by decide +kernel
theorem d_Mo_answerOf_74 : decode M_Mo_answerOf.2.1 74 = .ok (.iconst 1, 1) := by decide +kernel
theorem d_Mo_answerOf_75 : decode M_Mo_answerOf.2.1 75 = .ok (.iload_n 3, 1) := by decide +kernel
theorem d_Mo_answerOf_76 : decode M_Mo_answerOf.2.1 76 = .ok (.isub, 1) := by decide +kernel
theorem d_Mo_answerOf_77 : decode M_Mo_answerOf.2.1 77 = .ok (.ireturn, 1) := by decide +kernel
theorem d_Mo_answerOf_78 : decode M_Mo_answerOf.2.1 78 = .ok (.bipush (-2), 2) := by decide +kernel
theorem d_Mo_answerOf_80 : decode M_Mo_answerOf.2.1 80 = .ok (.ireturn, 1) := by decide +kernel
theorem d_Mo_goOver_0 : decode M_Mo_goOver.2.1 0 = .ok (.iload_n 2, 1) := by decide +kernel
theorem d_Mo_goOver_1 : decode M_Mo_goOver.2.1 1 = .ok (.iconst 2, 1) := by decide +kernel
theorem d_Mo_goOver_2 : decode M_Mo_goOver.2.1 2 = .ok (.idiv, 1) := by decide +kernel
theorem d_Mo_goOver_3 : decode M_Mo_goOver.2.1 3 = .ok (.istore_n 3, 1) := by decide +kernel
theorem d_Mo_goOver_4 : decode M_Mo_goOver.2.1 4 = .ok (.iload_n 2, 1) := by decide +kernel
theorem d_Mo_goOver_5 : decode M_Mo_goOver.2.1 5 = .ok (.iconst 2, 1) := by decide +kernel
theorem d_Mo_goOver_6 : decode M_Mo_goOver.2.1 6 = .ok (.irem, 1) := by decide +kernel
theorem d_Mo_goOver_7 : decode M_Mo_goOver.2.1 7 = .ok (.istore 4, 2) := by decide +kernel
theorem d_Mo_goOver_9 : decode M_Mo_goOver.2.1 9 = .ok (.iconst 0, 1) := by decide +kernel
theorem d_Mo_goOver_10 : decode M_Mo_goOver.2.1 10 = .ok (.istore 5, 2) := by decide +kernel
theorem d_Mo_goOver_12 : decode M_Mo_goOver.2.1 12 = .ok (.aload_n 0, 1) := by decide +kernel
theorem d_Mo_goOver_13 : decode M_Mo_goOver.2.1 13 = .ok (.iconst 0, 1) := by decide +kernel
theorem d_Mo_goOver_14 : decode M_Mo_goOver.2.1 14 = .ok (.putfield 245, 3) := by decide +kernel
theorem d_Mo_goOver_17 : decode M_Mo_goOver.2.1 17 = .ok (.aload_n 0, 1) := by decide +kernel
theorem d_Mo_goOver_18 : decode M_Mo_goOver.2.1 18 = .ok (.iconst 0, 1) := by decide +kernel
theorem d_Mo_goOver_19 : decode M_Mo_goOver.2.1 19 = .ok (.putfield 248, 3) := by decide +kernel
theorem d_Mo_goOver_22 : decode M_Mo_goOver.2.1 22 = .ok (.aload_n 0, 1) := by decide +kernel
theorem d_Mo_goOver_23 : decode M_Mo_goOver.2.1 23 = .ok (.bipush (-2), 2) := by decide +kernel
theorem d_Mo_goOver_25 : decode M_Mo_goOver.2.1 25 = .ok (.putfield 251, 3) := by decide +kernel
theorem d_Mo_goOver_28 : decode M_Mo_goOver.2.1 28 = .ok (.aload_n 0, 1) := by decide +kernel
theorem d_Mo_goOver_29 : decode M_Mo_goOver.2.1 29 = .ok (.bipush (-2), 2) := by decide +kernel
theorem d_Mo_goOver_31 : decode M_Mo_goOver.2.1 31 = .ok (.putfield 254, 3) := by decide +kernel
theorem d_Mo_goOver_34 : decode M_Mo_goOver.2.1 34 = .ok (.iload 5, 2) := by decide +kernel
theorem d_Mo_goOver_36 : decode M_Mo_goOver.2.1 36 = .ok (.iload_n 3, 1) := by decide +kernel
theorem d_Mo_goOver_37 : decode M_Mo_goOver.2.1 37 = .ok (.invokestatic 231, 3) := by decide +kernel
theorem d_Mo_goOver_40 : decode M_Mo_goOver.2.1 40 = .ok (.ifCond .ne 90, 3) := by decide +kernel
theorem d_Mo_goOver_43 : decode M_Mo_goOver.2.1 43 = .ok (.iload 5, 2) := by decide +kernel
theorem d_Mo_goOver_45 : decode M_Mo_goOver.2.1 45 = .ok (.iconst 1, 1) := by decide +kernel
theorem d_Mo_goOver_46 : decode M_Mo_goOver.2.1 46 = .ok (.iload_n 3, 1) := by decide +kernel
theorem d_Mo_goOver_47 : decode M_Mo_goOver.2.1 47 = .ok (.ishl, 1) := by decide +kernel
theorem d_Mo_goOver_48 : decode M_Mo_goOver.2.1 48 = .ok (.ior, 1) := by decide +kernel
theorem d_Mo_goOver_49 : decode M_Mo_goOver.2.1 49 = .ok (.istore 5, 2) := by decide +kernel
theorem d_Mo_goOver_51 : decode M_Mo_goOver.2.1 51 = .ok (.aload_n 0, 1) := by decide +kernel
theorem d_Mo_goOver_52 : decode M_Mo_goOver.2.1 52 = .ok (.getfield 44, 3) := by decide +kernel
theorem d_Mo_goOver_55 : decode M_Mo_goOver.2.1 55 = .ok (.aload_n 0, 1) := by decide +kernel
theorem d_Mo_goOver_56 : decode M_Mo_goOver.2.1 56 = .ok (.getfield 245, 3) := by decide +kernel
theorem d_Mo_goOver_59 : decode M_Mo_goOver.2.1 59 = .ok (.iload_n 3, 1) := by decide +kernel
theorem d_Mo_goOver_60 : decode M_Mo_goOver.2.1 60 = .ok (.iastore, 1) := by decide +kernel
theorem d_Mo_goOver_61 : decode M_Mo_goOver.2.1 61 = .ok (.aload_n 0, 1) := by decide +kernel
theorem d_Mo_goOver_62 : decode M_Mo_goOver.2.1 62 = .ok (.dup, 1) := by decide +kernel
theorem d_Mo_goOver_63 : decode M_Mo_goOver.2.1 63 = .ok (.getfield 245, 3) := by decide +kernel
theorem d_Mo_goOver_66 : decode M_Mo_goOver.2.1 66 = .ok (.iconst 1, 1) := by decide +kernel
theorem d_Mo_goOver_67 : decode M_Mo_goOver.2.1 67 = .ok (.iadd, 1) := by decide +kernel
theorem d_Mo_goOver_68 : decode M_Mo_goOver.2.1 68 = .ok (.putfield 245, 3) := by decide +kernel
theorem d_Mo_goOver_71 : decode M_Mo_goOver.2.1 71 = .ok (.aload_n 0, 1) := by decide +kernel
theorem d_Mo_goOver_72 : decode M_Mo_goOver.2.1 72 = .ok (.aload_n 1, 1) := by decide +kernel
theorem d_Mo_goOver_73 : decode M_Mo_goOver.2.1 73 = .ok (.iload_n 3, 1) := by decide +kernel
theorem d_Mo_goOver_74 : decode M_Mo_goOver.2.1 74 = .ok (.iload 4, 2) := by decide +kernel
theorem d_Mo_goOver_76 : decode M_Mo_goOver.2.1 76 = .ok (.invokevirtual 257, 3) := by decide +kernel
theorem d_Mo_goOver_79 : decode M_Mo_goOver.2.1 79 = .ok (.istore 4, 2) := by decide +kernel
theorem d_Mo_goOver_81 : decode M_Mo_goOver.2.1 81 = .ok (.iload 4, 2) := by decide +kernel
theorem d_Mo_goOver_83 : decode M_Mo_goOver.2.1 83 = .ok (.ifCond .ge 4, 3) := by decide +kernel
theorem d_Mo_goOver_86 : decode M_Mo_goOver.2.1 86 = .ok (.return_, 1) := by decide +kernel
theorem d_Mo_goOver_87 : decode M_Mo_goOver.2.1 87 = .ok (.aload_n 0, 1) := by decide +kernel
theorem d_Mo_goOver_88 : decode M_Mo_goOver.2.1 88 = .ok (.dup, 1) := by decide +kernel
theorem d_Mo_goOver_89 : decode M_Mo_goOver.2.1 89 = .ok (.getfield 248, 3) := by decide +kernel
theorem d_Mo_goOver_92 : decode M_Mo_goOver.2.1 92 = .ok (.iconst 1, 1) := by decide +kernel
theorem d_Mo_goOver_93 : decode M_Mo_goOver.2.1 93 = .ok (.iadd, 1) := by decide +kernel
theorem d_Mo_goOver_94 : decode M_Mo_goOver.2.1 94 = .ok (.putfield 248, 3) := by decide +kernel
theorem d_Mo_goOver_97 : decode M_Mo_goOver.2.1 97 = .ok (.aload_n 1, 1) := by decide +kernel
theorem d_Mo_goOver_98 : decode M_Mo_goOver.2.1 98 = .ok (.bipush 6, 2) := by decide +kernel
theorem d_Mo_goOver_100 : decode M_Mo_goOver.2.1 100 = .ok (.iload_n 3, 1) := by decide +kernel
theorem d_Mo_goOver_101 : decode M_Mo_goOver.2.1 101 = .ok (.iadd, 1) := by decide +kernel
theorem d_Mo_goOver_102 : decode M_Mo_goOver.2.1 102 = .ok (.iaload, 1) := by decide +kernel
theorem d_Mo_goOver_103 : decode M_Mo_goOver.2.1 103 = .ok (.ifCond .ne 15, 3) := by decide +kernel
theorem d_Mo_goOver_106 : decode M_Mo_goOver.2.1 106 = .ok (.aload_n 0, 1) := by decide +kernel
theorem d_Mo_goOver_107 : decode M_Mo_goOver.2.1 107 = .ok (.iload_n 3, 1) := by decide +kernel
theorem d_Mo_goOver_108 : decode M_Mo_goOver.2.1 108 = .ok (.putfield 251, 3) := by decide +kernel
theorem d_Mo_goOver_111 : decode M_Mo_goOver.2.1 111 = .ok (.aload_n 0, 1) := by decide +kernel
theorem d_Mo_goOver_112 : decode M_Mo_goOver.2.1 112 = .ok (.iload 4, 2) := by decide +kernel
theorem d_Mo_goOver_114 : decode M_Mo_goOver.2.1 114 = .ok (.putfield 254, 3) := by decide +kernel
theorem d_Mo_goOver_117 : decode M_Mo_goOver.2.1 117 = .ok (.return_, 1) := by decide +kernel
theorem d_Mo_goOver_118 : decode M_Mo_goOver.2.1 118 = .ok (.aload_n 1, 1) := by decide +kernel
theorem d_Mo_goOver_119 : decode M_Mo_goOver.2.1 119 = .ok (.bipush 6, 2) := by decide +kernel
theorem d_Mo_goOver_121 : decode M_Mo_goOver.2.1 121 = .ok (.iload_n 3, 1) := by decide +kernel
theorem d_Mo_goOver_122 : decode M_Mo_goOver.2.1 122 = .ok (.iadd, 1) := by decide +kernel
theorem d_Mo_goOver_123 : decode M_Mo_goOver.2.1 123 = .ok (.iaload, 1) := by decide +kernel
theorem d_Mo_goOver_124 : decode M_Mo_goOver.2.1 124 = .ok (.iconst 1, 1) := by decide +kernel
theorem d_Mo_goOver_125 : decode M_Mo_goOver.2.1 125 = .ok (.isub, 1) := by decide +kernel
theorem d_Mo_goOver_126 : decode M_Mo_goOver.2.1 126 = .ok (.istore_n 3, 1) := by decide +kernel
theorem d_Mo_goOver_127 : decode M_Mo_goOver.2.1 127 = .ok (.goto (-93), 3) := by decide +kernel
theorem d_Mo_goOver_130 : decode M_Mo_goOver.2.1 130 = .ok (.return_, 1) := by decide +kernel
theorem d_Mo_signsOf_0 : decode M_Mo_signsOf.2.1 0 = .ok (.aload_n 0, 1) := by decide +kernel
theorem d_Mo_signsOf_1 : decode M_Mo_signsOf.2.1 1 = .ok (.aload_n 1, 1) := by decide +kernel
theorem d_Mo_signsOf_2 : decode M_Mo_signsOf.2.1 2 = .ok (.iload_n 2, 1) := by decide +kernel
theorem d_Mo_signsOf_3 : decode M_Mo_signsOf.2.1 3 = .ok (.invokevirtual 261, 3) := by decide +kernel
theorem d_Mo_signsOf_6 : decode M_Mo_signsOf.2.1 6 = .ok (.aload_n 0, 1) := by decide +kernel
theorem d_Mo_signsOf_7 : decode M_Mo_signsOf.2.1 7 = .ok (.getfield 254, 3) := by decide +kernel
theorem d_Mo_signsOf_10 : decode M_Mo_signsOf.2.1 10 = .ok (.ireturn, 1) := by decide +kernel
theorem d_Mo_estatesOf_0 : decode M_Mo_estatesOf.2.1 0 = .ok (.iconst 0, 1) := by decide +kernel
theorem d_Mo_estatesOf_1 : decode M_Mo_estatesOf.2.1 1 = .ok (.istore_n 2, 1) := by decide +kernel
theorem d_Mo_estatesOf_2 : decode M_Mo_estatesOf.2.1 2 = .ok (.iconst 0, 1) := by decide +kernel
theorem d_Mo_estatesOf_3 : decode M_Mo_estatesOf.2.1 3 = .ok (.istore_n 3, 1) := by decide +kernel
theorem d_Mo_estatesOf_4 : decode M_Mo_estatesOf.2.1 4 = .ok (.iload_n 3, 1) := by decide +kernel
theorem d_Mo_estatesOf_5 : decode M_Mo_estatesOf.2.1 5 = .ok (.aload_n 0, 1) := by decide +kernel
theorem d_Mo_estatesOf_6 : decode M_Mo_estatesOf.2.1 6 = .ok (.getfield 20, 3) := by decide +kernel
theorem d_Mo_estatesOf_9 : decode M_Mo_estatesOf.2.1 9 = .ok (.iconst 3, 1) := by decide +kernel
theorem d_Mo_estatesOf_10 : decode M_Mo_estatesOf.2.1 10 = .ok (.iaload, 1) := by decide +kernel
theorem d_Mo_estatesOf_11 : decode M_Mo_estatesOf.2.1 11 = .ok (.if_icmp .ge 34, 3) := by decide +kernel
theorem d_Mo_estatesOf_14 : decode M_Mo_estatesOf.2.1 14 = .ok (.iload_n 2, 1) := by decide +kernel
theorem d_Mo_estatesOf_15 : decode M_Mo_estatesOf.2.1 15 = .ok (.aload_n 0, 1) := by decide +kernel
theorem d_Mo_estatesOf_16 : decode M_Mo_estatesOf.2.1 16 = .ok (.getfield 20, 3) := by decide +kernel
theorem d_Mo_estatesOf_19 : decode M_Mo_estatesOf.2.1 19 = .ok (.bipush 19, 2) := by decide +kernel
theorem d_Mo_estatesOf_21 : decode M_Mo_estatesOf.2.1 21 = .ok (.iconst 2, 1) := by decide +kernel
theorem d_Mo_estatesOf_22 : decode M_Mo_estatesOf.2.1 22 = .ok (.iload_n 3, 1) := by decide +kernel
theorem d_Mo_estatesOf_23 : decode M_Mo_estatesOf.2.1 23 = .ok (.imul, 1) := by decide +kernel
theorem d_Mo_estatesOf_24 : decode M_Mo_estatesOf.2.1 24 = .ok (.iadd, 1) := by decide +kernel
theorem d_Mo_estatesOf_25 : decode M_Mo_estatesOf.2.1 25 = .ok (.iaload, 1) := by decide +kernel
theorem d_Mo_estatesOf_26 : decode M_Mo_estatesOf.2.1 26 = .ok (.iload_n 1, 1) := by decide +kernel
theorem d_Mo_estatesOf_27 : decode M_Mo_estatesOf.2.1 27 = .ok (.if_icmp .ne 9, 3) := by decide +kernel
theorem d_Mo_estatesOf_30 : decode M_Mo_estatesOf.2.1 30 = .ok (.iconst 1, 1) := by decide +kernel
theorem d_Mo_estatesOf_31 : decode M_Mo_estatesOf.2.1 31 = .ok (.iload_n 3, 1) := by decide +kernel
theorem d_Mo_estatesOf_32 : decode M_Mo_estatesOf.2.1 32 = .ok (.ishl, 1) := by decide +kernel
theorem d_Mo_estatesOf_33 : decode M_Mo_estatesOf.2.1 33 = .ok (.goto 4, 3) := by decide +kernel
theorem d_Mo_estatesOf_36 : decode M_Mo_estatesOf.2.1 36 = .ok (.iconst 0, 1) := by decide +kernel
theorem d_Mo_estatesOf_37 : decode M_Mo_estatesOf.2.1 37 = .ok (.ior, 1) := by decide +kernel
theorem d_Mo_estatesOf_38 : decode M_Mo_estatesOf.2.1 38 = .ok (.istore_n 2, 1) := by decide +kernel
theorem d_Mo_estatesOf_39 : decode M_Mo_estatesOf.2.1 39 = .ok (.iinc 3 1, 3) := by decide +kernel
theorem d_Mo_estatesOf_42 : decode M_Mo_estatesOf.2.1 42 = .ok (.goto (-38), 3) := by decide +kernel
theorem d_Mo_estatesOf_45 : decode M_Mo_estatesOf.2.1 45 = .ok (.iload_n 2, 1) := by decide +kernel
theorem d_Mo_estatesOf_46 : decode M_Mo_estatesOf.2.1 46 = .ok (.ireturn, 1) := by decide +kernel
theorem d_Mo_servedBy_0 : decode M_Mo_servedBy.2.1 0 = .ok (.aload_n 0, 1) := by decide +kernel
theorem d_Mo_servedBy_1 : decode M_Mo_servedBy.2.1 1 = .ok (.aload_n 1, 1) := by decide +kernel
theorem d_Mo_servedBy_2 : decode M_Mo_servedBy.2.1 2 = .ok (.iload_n 2, 1) := by decide +kernel
theorem d_Mo_servedBy_3 : decode M_Mo_servedBy.2.1 3 = .ok (.invokevirtual 261, 3) := by decide +kernel
theorem d_Mo_servedBy_6 : decode M_Mo_servedBy.2.1 6 = .ok (.aload_n 0, 1) := by decide +kernel
theorem d_Mo_servedBy_7 : decode M_Mo_servedBy.2.1 7 = .ok (.getfield 254, 3) := by decide +kernel
theorem d_Mo_servedBy_10 : decode M_Mo_servedBy.2.1 10 = .ok (.iconst 1, 1) := by decide +kernel
theorem d_Mo_servedBy_11 : decode M_Mo_servedBy.2.1 11 = .ok (.if_icmp .ne 14, 3) := by decide +kernel
theorem d_Mo_servedBy_14 : decode M_Mo_servedBy.2.1 14 = .ok (.aload_n 0, 1) := by decide +kernel
theorem d_Mo_servedBy_15 : decode M_Mo_servedBy.2.1 15 = .ok (.aload_n 0, 1) := by decide +kernel
theorem d_Mo_servedBy_16 : decode M_Mo_servedBy.2.1 16 = .ok (.getfield 251, 3) := by decide +kernel
theorem d_Mo_servedBy_19 : decode M_Mo_servedBy.2.1 19 = .ok (.invokevirtual 265, 3) := by decide +kernel
theorem d_Mo_servedBy_22 : decode M_Mo_servedBy.2.1 22 = .ok (.goto 4, 3) := by decide +kernel
theorem d_Mo_servedBy_25 : decode M_Mo_servedBy.2.1 25 = .ok (.iconst 0, 1) := by decide +kernel
theorem d_Mo_servedBy_26 : decode M_Mo_servedBy.2.1 26 = .ok (.ireturn, 1) := by decide +kernel
theorem d_Mo_servedOn_0 : decode M_Mo_servedOn.2.1 0 = .ok (.iconst 0, 1) := by decide +kernel
theorem d_Mo_servedOn_1 : decode M_Mo_servedOn.2.1 1 = .ok (.istore_n 2, 1) := by decide +kernel
theorem d_Mo_servedOn_2 : decode M_Mo_servedOn.2.1 2 = .ok (.iconst 0, 1) := by decide +kernel
theorem d_Mo_servedOn_3 : decode M_Mo_servedOn.2.1 3 = .ok (.istore_n 3, 1) := by decide +kernel
theorem d_Mo_servedOn_4 : decode M_Mo_servedOn.2.1 4 = .ok (.iload_n 3, 1) := by decide +kernel
theorem d_Mo_servedOn_5 : decode M_Mo_servedOn.2.1 5 = .ok (.iconst 2, 1) := by decide +kernel
theorem d_Mo_servedOn_6 : decode M_Mo_servedOn.2.1 6 = .ok (.aload_n 0, 1) := by decide +kernel
theorem d_Mo_servedOn_7 : decode M_Mo_servedOn.2.1 7 = .ok (.getfield 20, 3) := by decide +kernel
theorem d_Mo_servedOn_10 : decode M_Mo_servedOn.2.1 10 = .ok (.iconst 2, 1) := by decide +kernel
theorem d_Mo_servedOn_11 : decode M_Mo_servedOn.2.1 11 = .ok (.iaload, 1) := by decide +kernel
theorem d_Mo_servedOn_12 : decode M_Mo_servedOn.2.1 12 = .ok (.imul, 1) := by decide +kernel
theorem d_Mo_servedOn_13 : decode M_Mo_servedOn.2.1 13 = .ok (.if_icmp .ge 18, 3) := by decide +kernel
theorem d_Mo_servedOn_16 : decode M_Mo_servedOn.2.1 16 = .ok (.iload_n 2, 1) := by decide +kernel
theorem d_Mo_servedOn_17 : decode M_Mo_servedOn.2.1 17 = .ok (.aload_n 0, 1) := by decide +kernel
theorem d_Mo_servedOn_18 : decode M_Mo_servedOn.2.1 18 = .ok (.aload_n 1, 1) := by decide +kernel
theorem d_Mo_servedOn_19 : decode M_Mo_servedOn.2.1 19 = .ok (.iload_n 3, 1) := by decide +kernel
theorem d_Mo_servedOn_20 : decode M_Mo_servedOn.2.1 20 = .ok (.invokevirtual 268, 3) := by decide +kernel
theorem d_Mo_servedOn_23 : decode M_Mo_servedOn.2.1 23 = .ok (.ior, 1) := by decide +kernel
theorem d_Mo_servedOn_24 : decode M_Mo_servedOn.2.1 24 = .ok (.istore_n 2, 1) := by decide +kernel
theorem d_Mo_servedOn_25 : decode M_Mo_servedOn.2.1 25 = .ok (.iinc 3 1, 3) := by decide +kernel
theorem d_Mo_servedOn_28 : decode M_Mo_servedOn.2.1 28 = .ok (.goto (-24), 3) := by decide +kernel
theorem d_Mo_servedOn_31 : decode M_Mo_servedOn.2.1 31 = .ok (.iload_n 2, 1) := by decide +kernel
theorem d_Mo_servedOn_32 : decode M_Mo_servedOn.2.1 32 = .ok (.ireturn, 1) := by decide +kernel
theorem d_Mo_letterOf_0 : decode M_Mo_letterOf.2.1 0 = .ok (.iconst 2, 1) := by decide +kernel
theorem d_Mo_letterOf_1 : decode M_Mo_letterOf.2.1 1 = .ok (.iload_n 1, 1) := by decide +kernel
theorem d_Mo_letterOf_2 : decode M_Mo_letterOf.2.1 2 = .ok (.imul, 1) := by decide +kernel
theorem d_Mo_letterOf_3 : decode M_Mo_letterOf.2.1 3 = .ok (.iload_n 2, 1) := by decide +kernel
theorem d_Mo_letterOf_4 : decode M_Mo_letterOf.2.1 4 = .ok (.ifCond .eq 7, 3) := by decide +kernel
theorem d_Mo_letterOf_7 : decode M_Mo_letterOf.2.1 7 = .ok (.iconst 1, 1) := by decide +kernel
theorem d_Mo_letterOf_8 : decode M_Mo_letterOf.2.1 8 = .ok (.goto 4, 3) := by decide +kernel
theorem d_Mo_letterOf_11 : decode M_Mo_letterOf.2.1 11 = .ok (.iconst 0, 1) := by decide +kernel
theorem d_Mo_letterOf_12 : decode M_Mo_letterOf.2.1 12 = .ok (.iadd, 1) := by decide +kernel
theorem d_Mo_letterOf_13 : decode M_Mo_letterOf.2.1 13 = .ok (.ireturn, 1) := by decide +kernel
theorem d_Mo_ruinIn_0 : decode M_Mo_ruinIn.2.1 0 = .ok (.aload_n 0, 1) := by decide +kernel
theorem d_Mo_ruinIn_1 : decode M_Mo_ruinIn.2.1 1 = .ok (.getfield 32, 3) := by decide +kernel
theorem d_Mo_ruinIn_4 : decode M_Mo_ruinIn.2.1 4 = .ok (.iload_n 1, 1) := by decide +kernel
theorem d_Mo_ruinIn_5 : decode M_Mo_ruinIn.2.1 5 = .ok (.iaload, 1) := by decide +kernel
theorem d_Mo_ruinIn_6 : decode M_Mo_ruinIn.2.1 6 = .ok (.ifCond .ne 7, 3) := by decide +kernel
theorem d_Mo_ruinIn_9 : decode M_Mo_ruinIn.2.1 9 = .ok (.iconst 0, 1) := by decide +kernel
theorem d_Mo_ruinIn_10 : decode M_Mo_ruinIn.2.1 10 = .ok (.goto 39, 3) := by decide +kernel
theorem d_Mo_ruinIn_13 : decode M_Mo_ruinIn.2.1 13 = .ok (.aload_n 0, 1) := by decide +kernel
theorem d_Mo_ruinIn_14 : decode M_Mo_ruinIn.2.1 14 = .ok (.getfield 20, 3) := by decide +kernel
theorem d_Mo_ruinIn_17 : decode M_Mo_ruinIn.2.1 17 = .ok (.iconst 1, 1) := by decide +kernel
theorem d_Mo_ruinIn_18 : decode M_Mo_ruinIn.2.1 18 = .ok (.iaload, 1) := by decide +kernel
theorem d_Mo_ruinIn_19 : decode M_Mo_ruinIn.2.1 19 = .ok (.ifCond .ne 8, 3) := by decide +kernel
theorem d_Mo_ruinIn_22 : decode M_Mo_ruinIn.2.1 22 = .ok (.bipush (-2), 2) := by decide +kernel
theorem d_Mo_ruinIn_24 : decode M_Mo_ruinIn.2.1 24 = .ok (.goto 25, 3) := by decide +kernel
theorem d_Mo_ruinIn_27 : decode M_Mo_ruinIn.2.1 27 = .ok (.aload_n 0, 1) := by decide +kernel
theorem d_Mo_ruinIn_28 : decode M_Mo_ruinIn.2.1 28 = .ok (.getfield 32, 3) := by decide +kernel
theorem d_Mo_ruinIn_31 : decode M_Mo_ruinIn.2.1 31 = .ok (.iload_n 1, 1) := by decide +kernel
theorem d_Mo_ruinIn_32 : decode M_Mo_ruinIn.2.1 32 = .ok (.iaload, 1) := by decide +kernel
theorem d_Mo_ruinIn_33 : decode M_Mo_ruinIn.2.1 33 = .ok (.aload_n 0, 1) := by decide +kernel
theorem d_Mo_ruinIn_34 : decode M_Mo_ruinIn.2.1 34 = .ok (.getfield 20, 3) := by decide +kernel
theorem d_Mo_ruinIn_37 : decode M_Mo_ruinIn.2.1 37 = .ok (.iconst 1, 1) := by decide +kernel
theorem d_Mo_ruinIn_38 : decode M_Mo_ruinIn.2.1 38 = .ok (.iaload, 1) := by decide +kernel
theorem d_Mo_ruinIn_39 : decode M_Mo_ruinIn.2.1 39 = .ok (.iadd, 1) := by decide +kernel
theorem d_Mo_ruinIn_40 : decode M_Mo_ruinIn.2.1 40 = .ok (.iconst 1, 1) := by decide +kernel
theorem d_Mo_ruinIn_41 : decode M_Mo_ruinIn.2.1 41 = .ok (.isub, 1) := by decide +kernel
theorem d_Mo_ruinIn_42 : decode M_Mo_ruinIn.2.1 42 = .ok (.aload_n 0, 1) := by decide +kernel
theorem d_Mo_ruinIn_43 : decode M_Mo_ruinIn.2.1 43 = .ok (.getfield 20, 3) := by decide +kernel
theorem d_Mo_ruinIn_46 : decode M_Mo_ruinIn.2.1 46 = .ok (.iconst 1, 1) := by decide +kernel
theorem d_Mo_ruinIn_47 : decode M_Mo_ruinIn.2.1 47 = .ok (.iaload, 1) := by decide +kernel
theorem d_Mo_ruinIn_48 : decode M_Mo_ruinIn.2.1 48 = .ok (.idiv, 1) := by decide +kernel
theorem d_Mo_ruinIn_49 : decode M_Mo_ruinIn.2.1 49 = .ok (.ireturn, 1) := by decide +kernel
theorem d_Mo_folly_0 : decode M_Mo_folly.2.1 0 = .ok (.aload_n 0, 1) := by decide +kernel
theorem d_Mo_folly_1 : decode M_Mo_folly.2.1 1 = .ok (.invokevirtual 154, 3) := by decide +kernel
theorem d_Mo_folly_4 : decode M_Mo_folly.2.1 4 = .ok (.aload_n 0, 1) := by decide +kernel
theorem d_Mo_folly_5 : decode M_Mo_folly.2.1 5 = .ok (.iload_n 1, 1) := by decide +kernel
theorem d_Mo_folly_6 : decode M_Mo_folly.2.1 6 = .ok (.invokevirtual 272, 3) := by decide +kernel
theorem d_Mo_folly_9 : decode M_Mo_folly.2.1 9 = .ok (.ifCond .eq 12, 3) := by decide +kernel
theorem d_Mo_folly_12 : decode M_Mo_folly.2.1 12 = .ok (.iload_n 2, 1) := by decide +kernel
theorem d_Mo_folly_13 : decode M_Mo_folly.2.1 13 = .ok (.iconst 0, 1) := by decide +kernel
theorem d_Mo_folly_14 : decode M_Mo_folly.2.1 14 = .ok (.iconst 5, 1) := by decide +kernel
theorem d_Mo_folly_15 : decode M_Mo_folly.2.1 15 = .ok (.invokestatic 142, 3) := by decide +kernel
theorem d_Mo_folly_18 : decode M_Mo_folly.2.1 18 = .ok (.ifCond .ne 9, 3) := by decide +kernel
theorem d_Mo_folly_21 : decode M_Mo_folly.2.1 21 = .ok (.aload_n 0, 1) := by decide +kernel
theorem d_Mo_folly_22 : decode M_Mo_folly.2.1 22 = .ok (.iconst 1, 1) := by decide +kernel
theorem d_Mo_folly_23 : decode M_Mo_folly.2.1 23 = .ok (.invokevirtual 157, 3) := by decide +kernel
theorem d_Mo_folly_26 : decode M_Mo_folly.2.1 26 = .ok (.ireturn, 1) := by decide +kernel
theorem d_Mo_folly_27 : decode M_Mo_folly.2.1 27 = .ok (.iload_n 2, 1) := by decide +kernel
theorem d_Mo_folly_28 : decode M_Mo_folly.2.1 28 = .ok (.tableswitch 102 0 4 #[36, 48, 55, 67, 96], 36) := by decide +kernel
theorem d_Mo_folly_64 : decode M_Mo_folly.2.1 64 = .ok (.aload_n 0, 1) := by decide +kernel
theorem d_Mo_folly_65 : decode M_Mo_folly.2.1 65 = .ok (.getfield 20, 3) := by decide +kernel
theorem d_Mo_folly_68 : decode M_Mo_folly.2.1 68 = .ok (.bipush 7, 2) := by decide +kernel
theorem d_Mo_folly_70 : decode M_Mo_folly.2.1 70 = .ok (.iconst 2, 1) := by decide +kernel
theorem d_Mo_folly_71 : decode M_Mo_folly.2.1 71 = .ok (.iload_n 1, 1) := by decide +kernel
theorem d_Mo_folly_72 : decode M_Mo_folly.2.1 72 = .ok (.imul, 1) := by decide +kernel
theorem d_Mo_folly_73 : decode M_Mo_folly.2.1 73 = .ok (.iadd, 1) := by decide +kernel
theorem d_Mo_folly_74 : decode M_Mo_folly.2.1 74 = .ok (.iaload, 1) := by decide +kernel
theorem d_Mo_folly_75 : decode M_Mo_folly.2.1 75 = .ok (.ireturn, 1) := by decide +kernel
theorem d_Mo_folly_76 : decode M_Mo_folly.2.1 76 = .ok (.aload_n 0, 1) := by decide +kernel
theorem d_Mo_folly_77 : decode M_Mo_folly.2.1 77 = .ok (.getfield 32, 3) := by decide +kernel
theorem d_Mo_folly_80 : decode M_Mo_folly.2.1 80 = .ok (.iload_n 1, 1) := by decide +kernel
theorem d_Mo_folly_81 : decode M_Mo_folly.2.1 81 = .ok (.iaload, 1) := by decide +kernel
theorem d_Mo_folly_82 : decode M_Mo_folly.2.1 82 = .ok (.ireturn, 1) := by decide +kernel
theorem d_Mo_folly_83 : decode M_Mo_folly.2.1 83 = .ok (.aload_n 0, 1) := by decide +kernel
theorem d_Mo_folly_84 : decode M_Mo_folly.2.1 84 = .ok (.getfield 32, 3) := by decide +kernel
theorem d_Mo_folly_87 : decode M_Mo_folly.2.1 87 = .ok (.bipush 12, 2) := by decide +kernel
theorem d_Mo_folly_89 : decode M_Mo_folly.2.1 89 = .ok (.iaload, 1) := by decide +kernel
theorem d_Mo_folly_90 : decode M_Mo_folly.2.1 90 = .ok (.iload_n 1, 1) := by decide +kernel
theorem d_Mo_folly_91 : decode M_Mo_folly.2.1 91 = .ok (.ishr, 1) := by decide +kernel
theorem d_Mo_folly_92 : decode M_Mo_folly.2.1 92 = .ok (.iconst 1, 1) := by decide +kernel
theorem d_Mo_folly_93 : decode M_Mo_folly.2.1 93 = .ok (.iand, 1) := by decide +kernel
theorem d_Mo_folly_94 : decode M_Mo_folly.2.1 94 = .ok (.ireturn, 1) := by decide +kernel
theorem d_Mo_folly_95 : decode M_Mo_folly.2.1 95 = .ok (.aload_n 0, 1) := by decide +kernel
theorem d_Mo_folly_96 : decode M_Mo_folly.2.1 96 = .ok (.getfield 32, 3) := by decide +kernel
theorem d_Mo_folly_99 : decode M_Mo_folly.2.1 99 = .ok (.bipush 6, 2) := by decide +kernel
theorem d_Mo_folly_101 : decode M_Mo_folly.2.1 101 = .ok (.iload_n 1, 1) := by decide +kernel
theorem d_Mo_folly_102 : decode M_Mo_folly.2.1 102 = .ok (.iadd, 1) := by decide +kernel
theorem d_Mo_folly_103 : decode M_Mo_folly.2.1 103 = .ok (.iaload, 1) := by decide +kernel
theorem d_Mo_folly_104 : decode M_Mo_folly.2.1 104 = .ok (.ifCond .ne 8, 3) := by decide +kernel
theorem d_Mo_folly_107 : decode M_Mo_folly.2.1 107 = .ok (.bipush (-2), 2) := by decide +kernel
theorem d_Mo_folly_109 : decode M_Mo_folly.2.1 109 = .ok (.goto 14, 3) := by decide +kernel
theorem d_Mo_folly_112 : decode M_Mo_folly.2.1 112 = .ok (.aload_n 0, 1) := by decide +kernel
theorem d_Mo_folly_113 : decode M_Mo_folly.2.1 113 = .ok (.getfield 32, 3) := by decide +kernel
theorem d_Mo_folly_116 : decode M_Mo_folly.2.1 116 = .ok (.bipush 6, 2) := by decide +kernel
theorem d_Mo_folly_118 : decode M_Mo_folly.2.1 118 = .ok (.iload_n 1, 1) := by decide +kernel
theorem d_Mo_folly_119 : decode M_Mo_folly.2.1 119 = .ok (.iadd, 1) := by decide +kernel
theorem d_Mo_folly_120 : decode M_Mo_folly.2.1 120 = .ok (.iaload, 1) := by decide +kernel
theorem d_Mo_folly_121 : decode M_Mo_folly.2.1 121 = .ok (.iconst 1, 1) := by decide +kernel
theorem d_Mo_folly_122 : decode M_Mo_folly.2.1 122 = .ok (.isub, 1) := by decide +kernel
theorem d_Mo_folly_123 : decode M_Mo_folly.2.1 123 = .ok (.ireturn, 1) := by decide +kernel
theorem d_Mo_folly_124 : decode M_Mo_folly.2.1 124 = .ok (.aload_n 0, 1) := by decide +kernel
theorem d_Mo_folly_125 : decode M_Mo_folly.2.1 125 = .ok (.iload_n 1, 1) := by decide +kernel
theorem d_Mo_folly_126 : decode M_Mo_folly.2.1 126 = .ok (.invokevirtual 265, 3) := by decide +kernel
theorem d_Mo_folly_129 : decode M_Mo_folly.2.1 129 = .ok (.ireturn, 1) := by decide +kernel
theorem d_Mo_folly_130 : decode M_Mo_folly.2.1 130 = .ok (.aload_n 0, 1) := by decide +kernel
theorem d_Mo_folly_131 : decode M_Mo_folly.2.1 131 = .ok (.iload_n 1, 1) := by decide +kernel
theorem d_Mo_folly_132 : decode M_Mo_folly.2.1 132 = .ok (.invokevirtual 275, 3) := by decide +kernel
theorem d_Mo_folly_135 : decode M_Mo_folly.2.1 135 = .ok (.ireturn, 1) := by decide +kernel
theorem d_Mo_estate_0 : decode M_Mo_estate.2.1 0 = .ok (.aload_n 0, 1) := by decide +kernel
theorem d_Mo_estate_1 : decode M_Mo_estate.2.1 1 = .ok (.invokevirtual 154, 3) := by decide +kernel
theorem d_Mo_estate_4 : decode M_Mo_estate.2.1 4 = .ok (.aload_n 0, 1) := by decide +kernel
theorem d_Mo_estate_5 : decode M_Mo_estate.2.1 5 = .ok (.iload_n 1, 1) := by decide +kernel
theorem d_Mo_estate_6 : decode M_Mo_estate.2.1 6 = .ok (.invokevirtual 278, 3) := by decide +kernel
theorem d_Mo_estate_9 : decode M_Mo_estate.2.1 9 = .ok (.ifCond .eq 12, 3) := by decide +kernel
theorem d_Mo_estate_12 : decode M_Mo_estate.2.1 12 = .ok (.iload_n 2, 1) := by decide +kernel
theorem d_Mo_estate_13 : decode M_Mo_estate.2.1 13 = .ok (.iconst 0, 1) := by decide +kernel
theorem d_Mo_estate_14 : decode M_Mo_estate.2.1 14 = .ok (.iconst 2, 1) := by decide +kernel
theorem d_Mo_estate_15 : decode M_Mo_estate.2.1 15 = .ok (.invokestatic 142, 3) := by decide +kernel
theorem d_Mo_estate_18 : decode M_Mo_estate.2.1 18 = .ok (.ifCond .ne 9, 3) := by decide +kernel
theorem d_Mo_estate_21 : decode M_Mo_estate.2.1 21 = .ok (.aload_n 0, 1) := by decide +kernel
theorem d_Mo_estate_22 : decode M_Mo_estate.2.1 22 = .ok (.iconst 1, 1) := by decide +kernel
theorem d_Mo_estate_23 : decode M_Mo_estate.2.1 23 = .ok (.invokevirtual 157, 3) := by decide +kernel
theorem d_Mo_estate_26 : decode M_Mo_estate.2.1 26 = .ok (.ireturn, 1) := by decide +kernel
theorem d_Mo_estate_27 : decode M_Mo_estate.2.1 27 = .ok (.aload_n 0, 1) := by decide +kernel
theorem d_Mo_estate_28 : decode M_Mo_estate.2.1 28 = .ok (.invokevirtual 281, 3) := by decide +kernel
theorem d_Mo_estate_31 : decode M_Mo_estate.2.1 31 = .ok (.iload_n 2, 1) := by decide +kernel
theorem d_Mo_estate_32 : decode M_Mo_estate.2.1 32 = .ok (.iconst 2, 1) := by decide +kernel
theorem d_Mo_estate_33 : decode M_Mo_estate.2.1 33 = .ok (.if_icmp .ge 19, 3) := by decide +kernel
theorem d_Mo_estate_36 : decode M_Mo_estate.2.1 36 = .ok (.aload_n 0, 1) := by decide +kernel
theorem d_Mo_estate_37 : decode M_Mo_estate.2.1 37 = .ok (.getfield 20, 3) := by decide +kernel
theorem d_Mo_estate_40 : decode M_Mo_estate.2.1 40 = .ok (.bipush 19, 2) := by decide +kernel
theorem d_Mo_estate_42 : decode M_Mo_estate.2.1 42 = .ok (.iconst 2, 1) := by decide +kernel
theorem d_Mo_estate_43 : decode M_Mo_estate.2.1 43 = .ok (.iload_n 1, 1) := by decide +kernel
theorem d_Mo_estate_44 : decode M_Mo_estate.2.1 44 = .ok (.imul, 1) := by decide +kernel
theorem d_Mo_estate_45 : decode M_Mo_estate.2.1 45 = .ok (.iadd, 1) := by decide +kernel
theorem d_Mo_estate_46 : decode M_Mo_estate.2.1 46 = .ok (.iload_n 2, 1) := by decide +kernel
theorem d_Mo_estate_47 : decode M_Mo_estate.2.1 47 = .ok (.iadd, 1) := by decide +kernel
theorem d_Mo_estate_48 : decode M_Mo_estate.2.1 48 = .ok (.iaload, 1) := by decide +kernel
theorem d_Mo_estate_49 : decode M_Mo_estate.2.1 49 = .ok (.goto 15, 3) := by decide +kernel
theorem d_Mo_estate_52 : decode M_Mo_estate.2.1 52 = .ok (.aload_n 0, 1) := by decide +kernel
theorem d_Mo_estate_53 : decode M_Mo_estate.2.1 53 = .ok (.aload_n 0, 1) := by decide +kernel
theorem d_Mo_estate_54 : decode M_Mo_estate.2.1 54 = .ok (.getfield 32, 3) := by decide +kernel
theorem d_Mo_estate_57 : decode M_Mo_estate.2.1 57 = .ok (.invokevirtual 284, 3) := by decide +kernel
theorem d_Mo_estate_60 : decode M_Mo_estate.2.1 60 = .ok (.iload_n 1, 1) := by decide +kernel
theorem d_Mo_estate_61 : decode M_Mo_estate.2.1 61 = .ok (.ishr, 1) := by decide +kernel
theorem d_Mo_estate_62 : decode M_Mo_estate.2.1 62 = .ok (.iconst 1, 1) := by decide +kernel
theorem d_Mo_estate_63 : decode M_Mo_estate.2.1 63 = .ok (.iand, 1) := by decide +kernel
theorem d_Mo_estate_64 : decode M_Mo_estate.2.1 64 = .ok (.ireturn, 1) := by decide +kernel
theorem d_Mo_answers_0 : decode M_Mo_answers.2.1 0 = .ok (.aload_n 0, 1) := by decide +kernel
theorem d_Mo_answers_1 : decode M_Mo_answers.2.1 1 = .ok (.invokevirtual 154, 3) := by decide +kernel
theorem d_Mo_answers_4 : decode M_Mo_answers.2.1 4 = .ok (.aload_n 0, 1) := by decide +kernel
theorem d_Mo_answers_5 : decode M_Mo_answers.2.1 5 = .ok (.iload_n 1, 1) := by decide +kernel
theorem d_Mo_answers_6 : decode M_Mo_answers.2.1 6 = .ok (.invokevirtual 272, 3) := by decide +kernel
theorem d_Mo_answers_9 : decode M_Mo_answers.2.1 9 = .ok (.ifCond .ne 9, 3) := by decide +kernel
theorem d_Mo_answers_12 : decode M_Mo_answers.2.1 12 = .ok (.aload_n 0, 1) := by decide +kernel
theorem d_Mo_answers_13 : decode M_Mo_answers.2.1 13 = .ok (.iconst 1, 1) := by decide +kernel
theorem d_Mo_answers_14 : decode M_Mo_answers.2.1 14 = .ok (.invokevirtual 157, 3) := by decide +kernel
theorem d_Mo_answers_17 : decode M_Mo_answers.2.1 17 = .ok (.ireturn, 1) := by decide +kernel
theorem d_Mo_answers_18 : decode M_Mo_answers.2.1 18 = .ok (.aload_n 0, 1) := by decide +kernel
theorem d_Mo_answers_19 : decode M_Mo_answers.2.1 19 = .ok (.invokevirtual 281, 3) := by decide +kernel
theorem d_Mo_answers_22 : decode M_Mo_answers.2.1 22 = .ok (.aload_n 0, 1) := by decide +kernel
theorem d_Mo_answers_23 : decode M_Mo_answers.2.1 23 = .ok (.aload_n 0, 1) := by decide +kernel
theorem d_Mo_answers_24 : decode M_Mo_answers.2.1 24 = .ok (.getfield 32, 3) := by decide +kernel
theorem d_Mo_answers_27 : decode M_Mo_answers.2.1 27 = .ok (.iload_n 1, 1) := by decide +kernel
theorem d_Mo_answers_28 : decode M_Mo_answers.2.1 28 = .ok (.iload_n 2, 1) := by decide +kernel
theorem d_Mo_answers_29 : decode M_Mo_answers.2.1 29 = .ok (.ifCond .eq 7, 3) := by decide +kernel
theorem d_Mo_answers_32 : decode M_Mo_answers.2.1 32 = .ok (.iconst 1, 1) := by decide +kernel
theorem d_Mo_answers_33 : decode M_Mo_answers.2.1 33 = .ok (.goto 4, 3) := by decide +kernel
theorem d_Mo_answers_36 : decode M_Mo_answers.2.1 36 = .ok (.iconst 0, 1) := by decide +kernel
theorem d_Mo_answers_37 : decode M_Mo_answers.2.1 37 = .ok (.invokevirtual 257, 3) := by decide +kernel
theorem d_Mo_answers_40 : decode M_Mo_answers.2.1 40 = .ok (.ireturn, 1) := by decide +kernel
theorem d_Mo_signs_0 : decode M_Mo_signs.2.1 0 = .ok (.aload_n 0, 1) := by decide +kernel
theorem d_Mo_signs_1 : decode M_Mo_signs.2.1 1 = .ok (.invokevirtual 154, 3) := by decide +kernel
theorem d_Mo_signs_4 : decode M_Mo_signs.2.1 4 = .ok (.aload_n 0, 1) := by decide +kernel
theorem d_Mo_signs_5 : decode M_Mo_signs.2.1 5 = .ok (.iload_n 1, 1) := by decide +kernel
theorem d_Mo_signs_6 : decode M_Mo_signs.2.1 6 = .ok (.invokevirtual 272, 3) := by decide +kernel
theorem d_Mo_signs_9 : decode M_Mo_signs.2.1 9 = .ok (.ifCond .ne 9, 3) := by decide +kernel
theorem d_Mo_signs_12 : decode M_Mo_signs.2.1 12 = .ok (.aload_n 0, 1) := by decide +kernel
theorem d_Mo_signs_13 : decode M_Mo_signs.2.1 13 = .ok (.iconst 1, 1) := by decide +kernel
theorem d_Mo_signs_14 : decode M_Mo_signs.2.1 14 = .ok (.invokevirtual 157, 3) := by decide +kernel
theorem d_Mo_signs_17 : decode M_Mo_signs.2.1 17 = .ok (.ireturn, 1) := by decide +kernel
theorem d_Mo_signs_18 : decode M_Mo_signs.2.1 18 = .ok (.aload_n 0, 1) := by decide +kernel
theorem d_Mo_signs_19 : decode M_Mo_signs.2.1 19 = .ok (.invokevirtual 281, 3) := by decide +kernel
theorem d_Mo_signs_22 : decode M_Mo_signs.2.1 22 = .ok (.aload_n 0, 1) := by decide +kernel
theorem d_Mo_signs_23 : decode M_Mo_signs.2.1 23 = .ok (.aload_n 0, 1) := by decide +kernel
theorem d_Mo_signs_24 : decode M_Mo_signs.2.1 24 = .ok (.getfield 32, 3) := by decide +kernel
theorem d_Mo_signs_27 : decode M_Mo_signs.2.1 27 = .ok (.aload_n 0, 1) := by decide +kernel
theorem d_Mo_signs_28 : decode M_Mo_signs.2.1 28 = .ok (.iload_n 1, 1) := by decide +kernel
theorem d_Mo_signs_29 : decode M_Mo_signs.2.1 29 = .ok (.iload_n 2, 1) := by decide +kernel
theorem d_Mo_signs_30 : decode M_Mo_signs.2.1 30 = .ok (.invokevirtual 288, 3) := by decide +kernel
theorem d_Mo_signs_33 : decode M_Mo_signs.2.1 33 = .ok (.invokevirtual 292, 3) := by decide +kernel
theorem d_Mo_signs_36 : decode M_Mo_signs.2.1 36 = .ok (.ireturn, 1) := by decide +kernel
set_option maxRecDepth 4000 in
theorem t_Mo_veiledLine_15 {d : Nat} {I : Nat → Nat → Int32} {J : Nat → Nat → Int64} {R : Nat → Nat → Option Nat} {Q : Option Value → ow_H → Prop}  {v1 : Int32} {v2 : Int32}  (hR : ow_RF R) (T : (((I 74 4) ≤ v2 → (ow_AM M_Mo_pass d [.ref 70] (85, I, J, R) (fun r h' => ∃ (I2 : Nat → Nat → Int32) (J2 : Nat → Nat → Int64) (R2 : Nat → Nat → Option Nat), r = none ∧ h' = (85, I2, J2, R2) ∧ ow_RF R2 ∧ (((I2 70 13) = 0 → (vp_in (29 + (I2 74 4)) 146 ∧ (∀ (I3 : Nat → Nat → Int32), I3 = ow_u I2 74 ((29 + (I2 74 4)).toNatClampNeg) v1 → (∀ (I4 : Nat → Nat → Int32), I4 = ow_u I3 74 4 ((I3 74 4) + 1) → Q none (85, I4, J2, R2))))) ∧ (¬ (I2 70 13) = 0 → Q none (85, I2, J2, R2)))))) ∧ (¬ (I 74 4) ≤ v2 → ((¬ (I 70 13) = 0 → ow_AW ow_Y0 (ow_Z Q) M_Mo_veiledLine (d + 1) 0 0 15 [(0, .ref 70), (1, .int v1), (2, .int (v2 + 1))] [] (85, I, J, R) 0 0) ∧ ((I 70 13) = 0 → (vp_in (29 + v2) 146 ∧ ((¬ (I 74 (29 + v2).toNatClampNeg) = v1 → ow_AW ow_Y0 (ow_Z Q) M_Mo_veiledLine (d + 1) 0 0 15 [(0, .ref 70), (1, .int v1), (2, .int (v2 + 1))] [] (85, I, J, R) 0 0) ∧ ((I 74 (29 + v2).toNatClampNeg) = v1 → (ow_AM M_Mo_wrong d [.ref 70, .int 3, .int (I 70 4)] (85, I, J, R) (fun r h' => ∃ (I5 : Nat → Nat → Int32) (J5 : Nat → Nat → Int64) (R5 : Nat → Nat → Option Nat), r = none ∧ h' = (85, I5, J5, R5) ∧ ow_RF R5 ∧ ow_AW ow_Y0 (ow_Z Q) M_Mo_veiledLine (d + 1) 0 0 15 [(0, .ref 70), (1, .int v1), (2, .int (v2 + 1))] [] (85, I5, J5, R5) 0 0)))))))))) : ow_AW ow_Y0 (ow_Z Q) M_Mo_veiledLine (d + 1) 0 0 15 [(0, .ref 70), (1, .int v1), (2, .int v2)] [] (85, I, J, R) 0 0 := by
  refine ow_iload_n 2 rfl d_Mo_veiledLine_15 ?_
  refine ow_aload_n 0 rfl d_Mo_veiledLine_16 ?_
  refine ow_gR (a := 74) 185 d_Mo_veiledLine_17 rfl rfl (by decide) rfl ⟨rfl, hR 70 16 (by decide)⟩ ?_
  refine ow_iconst (v := 4) (by decide) d_Mo_veiledLine_20 ?_
  refine ow_hiaload d_Mo_veiledLine_21 (by decide) rfl rfl (show vp_in (4 : Int32) 146 by unfold vp_in; decide) ?_
  show ow_AW ow_Y0 (ow_Z Q) M_Mo_veiledLine (d + 1) 0 0 22 [(0, .ref 70), (1, .int v1), (2, .int v2)] [.int (I 74 4), .int v2] (85, I, J, R) 0 0
  refine ow_icmp_ge (tgt := 60) d_Mo_veiledLine_22 (by decide) (fun c => ?_) (fun c => ?_)
  · replace T := T.1 c
    refine ow_aload_n 0 rfl d_Mo_veiledLine_60 ?_
    refine ow_callV (b := 70) (cq := 12) (As := []) (rest := []) (d2 := d) d_Mo_veiledLine_61 l_Mo_176 v_Mo_pass (show 70 < 85 by decide) rfl (by decide) rfl (Nat.le_of_ble_eq_true rfl) (Nat.le_refl _) ⟨Nat.le_refl _, Nat.le_refl _⟩ (ow_mono T ?_)
    rintro r h' ⟨I2, J2, R2, rfl, rfl, hR2, T⟩
    show ow_AW ow_Y0 (ow_Z Q) M_Mo_veiledLine (d + 1) 0 0 64 [(0, .ref 70), (1, .int v1), (2, .int v2)] [] (85, I2, J2, R2) 0 0
    refine ow_aload_n 0 rfl d_Mo_veiledLine_64 ?_
    refine ow_gI 182 d_Mo_veiledLine_65 rfl rfl (by decide) rfl (Or.inr rfl) ?_
    refine ow_if_eq (tgt := 72) d_Mo_veiledLine_68 (by decide) (fun c => ?_) (fun c => ?_)
    · replace T := T.1 c
      refine ow_aload_n 0 rfl d_Mo_veiledLine_72 ?_
      refine ow_gR (a := 74) 185 d_Mo_veiledLine_73 rfl rfl (by decide) rfl ⟨rfl, hR2 70 16 (by decide)⟩ ?_
      refine ow_bipush (v := 29) (by decide) d_Mo_veiledLine_76 ?_
      refine ow_aload_n 0 rfl d_Mo_veiledLine_78 ?_
      refine ow_gR (a := 74) 185 d_Mo_veiledLine_79 rfl rfl (by decide) rfl ⟨rfl, hR2 70 16 (by decide)⟩ ?_
      refine ow_iconst (v := 4) (by decide) d_Mo_veiledLine_82 ?_
      refine ow_hiaload d_Mo_veiledLine_83 (by decide) rfl rfl (show vp_in (4 : Int32) 146 by unfold vp_in; decide) ?_
      show ow_AW ow_Y0 (ow_Z Q) M_Mo_veiledLine (d + 1) 0 0 84 [(0, .ref 70), (1, .int v1), (2, .int v2)] [.int (I2 74 4), .int 29, .ref 74] (85, I2, J2, R2) 0 0
      refine ow_iadd d_Mo_veiledLine_84 ?_
      refine ow_iload_n 1 rfl d_Mo_veiledLine_85 ?_
      obtain ⟨cI, T⟩ := T
      refine ow_hiastore d_Mo_veiledLine_86 (by decide) rfl rfl cI ?_
      obtain ⟨I3, eI3⟩ : ∃ uu, uu = ow_u I2 74 ((29 + (I2 74 4)).toNatClampNeg) v1 := ⟨_, rfl⟩
      replace T := T I3 eI3
      rw [← eI3]
      refine ow_aload_n 0 rfl d_Mo_veiledLine_87 ?_
      refine ow_gR (a := 74) 185 d_Mo_veiledLine_88 rfl rfl (by decide) rfl ⟨rfl, hR2 70 16 (by decide)⟩ ?_
      refine ow_iconst (v := 4) (by decide) d_Mo_veiledLine_91 ?_
      refine ow_dup2_11 rfl rfl d_Mo_veiledLine_92 ?_
      refine ow_hiaload d_Mo_veiledLine_93 (by decide) rfl rfl (show vp_in (4 : Int32) 146 by unfold vp_in; decide) ?_
      show ow_AW ow_Y0 (ow_Z Q) M_Mo_veiledLine (d + 1) 0 0 94 [(0, .ref 70), (1, .int v1), (2, .int v2)] [.int (I3 74 4), .int 4, .ref 74] (85, I3, J2, R2) 0 0
      refine ow_iconst (v := 1) (by decide) d_Mo_veiledLine_94 ?_
      refine ow_iadd d_Mo_veiledLine_95 ?_
      refine ow_hiastore d_Mo_veiledLine_96 (by decide) rfl rfl (show vp_in (4 : Int32) 146 by unfold vp_in; decide) ?_
      obtain ⟨I4, eI4⟩ : ∃ uu, uu = ow_u I3 74 4 ((I3 74 4) + 1) := ⟨_, rfl⟩
      replace T := T I4 eI4
      show ow_AW ow_Y0 (ow_Z Q) M_Mo_veiledLine (d + 1) 0 0 97 [(0, .ref 70), (1, .int v1), (2, .int v2)] [] (85, (ow_u I3 74 4 ((I3 74 4) + 1)), J2, R2) 0 0
      rw [← eI4]
      exact ow_vret d_Mo_veiledLine_97 rfl T
    · replace T := T.2 c
      exact ow_vret d_Mo_veiledLine_71 rfl T
  · replace T := T.2 c
    refine ow_aload_n 0 rfl d_Mo_veiledLine_25 ?_
    refine ow_gI 182 d_Mo_veiledLine_26 rfl rfl (by decide) rfl (Or.inr rfl) ?_
    refine ow_if_ne (tgt := 54) d_Mo_veiledLine_29 (by decide) (fun c => ?_) (fun c => ?_)
    · replace T := T.1 c
      refine ow_iinc 2 (v := (v2 + 1)) (ls2 := [(2, .int (v2 + 1)), (0, .ref 70), (1, .int v1)]) d_Mo_veiledLine_54 rfl rfl (by decide) rfl ?_
      refine ow_goto (tgt := 15) d_Mo_veiledLine_57 (by decide) ?_
      refine ow_sub [1, 2, 0] rfl ?_
      exact T
    · replace T := T.2 c
      refine ow_aload_n 0 rfl d_Mo_veiledLine_32 ?_
      refine ow_gR (a := 74) 185 d_Mo_veiledLine_33 rfl rfl (by decide) rfl ⟨rfl, hR 70 16 (by decide)⟩ ?_
      refine ow_bipush (v := 29) (by decide) d_Mo_veiledLine_36 ?_
      refine ow_iload_n 2 rfl d_Mo_veiledLine_38 ?_
      refine ow_iadd d_Mo_veiledLine_39 ?_
      obtain ⟨cI, T⟩ := T
      refine ow_hiaload d_Mo_veiledLine_40 (by decide) rfl rfl cI ?_
      refine ow_iload_n 1 rfl d_Mo_veiledLine_41 ?_
      refine ow_icmp_ne (tgt := 54) d_Mo_veiledLine_42 (by decide) (fun c => ?_) (fun c => ?_)
      · replace T := T.1 c
        refine ow_iinc 2 (v := (v2 + 1)) (ls2 := [(2, .int (v2 + 1)), (0, .ref 70), (1, .int v1)]) d_Mo_veiledLine_54 rfl rfl (by decide) rfl ?_
        refine ow_goto (tgt := 15) d_Mo_veiledLine_57 (by decide) ?_
        refine ow_sub [1, 2, 0] rfl ?_
        exact T
      · replace T := T.2 c
        refine ow_aload_n 0 rfl d_Mo_veiledLine_45 ?_
        refine ow_iconst (v := 3) (by decide) d_Mo_veiledLine_46 ?_
        refine ow_aload_n 0 rfl d_Mo_veiledLine_47 ?_
        refine ow_gI 173 d_Mo_veiledLine_48 rfl rfl (by decide) rfl (Or.inl rfl) ?_
        refine ow_callV (b := 70) (cq := 12) (As := [.int 3, .int (I 70 4)]) (rest := []) (d2 := d) d_Mo_veiledLine_51 l_Mo_118 v_Mo_wrong (show 70 < 85 by decide) rfl (by decide) rfl (Nat.le_of_ble_eq_true rfl) (Nat.le_refl _) ⟨Nat.le_refl _, Nat.le_refl _⟩ (ow_mono T ?_)
        rintro r h' ⟨I5, J5, R5, rfl, rfl, hR5, T⟩
        show ow_AW ow_Y0 (ow_Z Q) M_Mo_veiledLine (d + 1) 0 0 54 [(0, .ref 70), (1, .int v1), (2, .int v2)] [] (85, I5, J5, R5) 0 0
        refine ow_iinc 2 (v := (v2 + 1)) (ls2 := [(2, .int (v2 + 1)), (0, .ref 70), (1, .int v1)]) d_Mo_veiledLine_54 rfl rfl (by decide) rfl ?_
        refine ow_goto (tgt := 15) d_Mo_veiledLine_57 (by decide) ?_
        refine ow_sub [1, 2, 0] rfl ?_
        exact T
set_option maxRecDepth 4000 in
theorem t_Mo_veiledLine {d : Nat} {I : Nat → Nat → Int32} {J : Nat → Nat → Int64} {R : Nat → Nat → Option Nat} {Q : Option Value → ow_H → Prop}   (hR : ow_RF R) (T : (((I 70 13) = 0 → (ow_AM M_Mo_follyHere d [.ref 70] (85, I, J, R) (fun r h' => ∃ (r6 : Int32) (I6 : Nat → Nat → Int32) (J6 : Nat → Nat → Int64) (R6 : Nat → Nat → Option Nat), r = some (.int r6) ∧ h' = (85, I6, J6, R6) ∧ ow_RF R6 ∧ ow_AW ow_Y0 (ow_Z Q) M_Mo_veiledLine (d + 1) 0 0 15 [(0, .ref 70), (1, .int r6), (2, .int 0)] [] (85, I6, J6, R6) 0 0))) ∧ (¬ (I 70 13) = 0 → Q none (85, I, J, R)))) : ow_AM M_Mo_veiledLine (d + 1) [.ref 70] (85, I, J, R) Q := by
  refine ow_enter (by decide) (Nat.le_of_ble_eq_true rfl) ?_
  show ow_AW ow_Y0 (ow_Z Q) M_Mo_veiledLine (d + 1) 0 0 0 [(0, .ref 70)] [] (85, I, J, R) 0 0
  refine ow_aload_n 0 rfl d_Mo_veiledLine_0 ?_
  refine ow_gI 182 d_Mo_veiledLine_1 rfl rfl (by decide) rfl (Or.inr rfl) ?_
  refine ow_if_eq (tgt := 8) d_Mo_veiledLine_4 (by decide) (fun c => ?_) (fun c => ?_)
  · replace T := T.1 c
    refine ow_aload_n 0 rfl d_Mo_veiledLine_8 ?_
    refine ow_callV (b := 70) (cq := 12) (As := []) (rest := []) (d2 := d) d_Mo_veiledLine_9 l_Mo_228 v_Mo_follyHere (show 70 < 85 by decide) rfl (by decide) rfl (Nat.le_of_ble_eq_true rfl) (Nat.le_refl _) ⟨Nat.le_refl _, Nat.le_refl _⟩ (ow_mono T ?_)
    rintro r h' ⟨r6, I6, J6, R6, rfl, rfl, hR6, T⟩
    show ow_AW ow_Y0 (ow_Z Q) M_Mo_veiledLine (d + 1) 0 0 12 [(0, .ref 70)] [.int r6] (85, I6, J6, R6) 0 0
    refine ow_istore_n (ls2 := [(1, .int r6), (0, .ref 70)]) d_Mo_veiledLine_12 (by decide) rfl ?_
    refine ow_iconst (v := 0) (by decide) d_Mo_veiledLine_13 ?_
    refine ow_istore_n (ls2 := [(2, .int 0), (1, .int r6), (0, .ref 70)]) d_Mo_veiledLine_14 (by decide) rfl ?_
    refine ow_sub [2, 1, 0] rfl ?_
    exact T
  · replace T := T.2 c
    exact ow_vret d_Mo_veiledLine_7 rfl T
set_option maxRecDepth 4000 in
theorem t_Mo_say {d : Nat} {I : Nat → Nat → Int32} {J : Nat → Nat → Int64} {R : Nat → Nat → Option Nat} {Q : Option Value → ow_H → Prop}   (hR : ow_RF R) (T : (ow_AM M_Mo_takesWord d [.ref 70, .ref (1000 + 16)] (85, I, J, R) (fun r h' => ∃ (r3 : Int32) (I3 : Nat → Nat → Int32) (J3 : Nat → Nat → Int64) (R3 : Nat → Nat → Option Nat), r = some (.int r3) ∧ h' = (85, I3, J3, R3) ∧ ow_RF R3 ∧ ((r3 = 0 → (ow_AM M_Mo_must d [.ref 70, .ref (1000 + 17)] (85, I3, J3, R3) (fun r h' => ∃ (I4 : Nat → Nat → Int32) (J4 : Nat → Nat → Int64) (R4 : Nat → Nat → Option Nat), r = none ∧ h' = (85, I4, J4, R4) ∧ ow_RF R4 ∧ Q (some (.int 0)) (85, I4, J4, R4)))) ∧ (¬ r3 = 0 → Q (some (.int 1)) (85, I3, J3, R3)))))) : ow_AM M_Mo_say (d + 1) [.ref 70] (85, I, J, R) Q := by
  refine ow_enter (by decide) (Nat.le_of_ble_eq_true rfl) ?_
  show ow_AW ow_Y0 (ow_Z Q) M_Mo_say (d + 1) 0 0 0 [(0, .ref 70)] [] (85, I, J, R) 0 0
  refine ow_aload_n 0 rfl d_Mo_say_0 ?_
  refine ow_ldS (tx := "yes") (i := 16) 35 d_Mo_say_1 rfl ?_
  refine ow_callV (b := 70) (cq := 12) (As := [.ref (1000 + 16)]) (rest := []) (d2 := d) d_Mo_say_3 l_Mo_115 v_Mo_takesWord (show 70 < 85 by decide) rfl (by decide) rfl (Nat.le_of_ble_eq_true rfl) (Nat.le_refl _) ⟨Nat.le_refl _, Nat.le_refl _⟩ (ow_mono T ?_)
  rintro r h' ⟨r3, I3, J3, R3, rfl, rfl, hR3, T⟩
  show ow_AW ow_Y0 (ow_Z Q) M_Mo_say (d + 1) 0 0 6 [(0, .ref 70)] [.int r3] (85, I3, J3, R3) 0 0
  refine ow_if_eq (tgt := 11) d_Mo_say_6 (by decide) (fun c => ?_) (fun c => ?_)
  · replace T := T.1 c
    refine ow_aload_n 0 rfl d_Mo_say_11 ?_
    refine ow_ldS (tx := "no") (i := 17) 36 d_Mo_say_12 rfl ?_
    refine ow_callV (b := 70) (cq := 12) (As := [.ref (1000 + 17)]) (rest := []) (d2 := d) d_Mo_say_14 l_Mo_146 v_Mo_must (show 70 < 85 by decide) rfl (by decide) rfl (Nat.le_of_ble_eq_true rfl) (Nat.le_refl _) ⟨Nat.le_refl _, Nat.le_refl _⟩ (ow_mono T ?_)
    rintro r h' ⟨I4, J4, R4, rfl, rfl, hR4, T⟩
    show ow_AW ow_Y0 (ow_Z Q) M_Mo_say (d + 1) 0 0 17 [(0, .ref 70)] [] (85, I4, J4, R4) 0 0
    refine ow_iconst (v := 0) (by decide) d_Mo_say_17 ?_
    exact ow_iret d_Mo_say_18 rfl T
  · replace T := T.2 c
    refine ow_iconst (v := 1) (by decide) d_Mo_say_9 ?_
    exact ow_iret d_Mo_say_10 rfl T
set_option maxRecDepth 4000 in
theorem t_Mo_signedLine {d : Nat} {I : Nat → Nat → Int32} {J : Nat → Nat → Int64} {R : Nat → Nat → Option Nat} {Q : Option Value → ow_H → Prop}   (hR : ow_RF R) (T : (((I 70 13) = 0 → (ow_AM M_Mo_follyHere d [.ref 70] (85, I, J, R) (fun r h' => ∃ (r12 : Int32) (I12 : Nat → Nat → Int32) (J12 : Nat → Nat → Int64) (R12 : Nat → Nat → Option Nat), r = some (.int r12) ∧ h' = (85, I12, J12, R12) ∧ ow_RF R12 ∧ (vp_in (32 + (3 * (I 74 5))) 146 ∧ (∀ (I13 : Nat → Nat → Int32), I13 = ow_u I12 74 ((32 + (3 * (I 74 5))).toNatClampNeg) r12 → (ow_AM M_Mo_pass d [.ref 70] (85, I13, J12, R12) (fun r h' => ∃ (I14 : Nat → Nat → Int32) (J14 : Nat → Nat → Int64) (R14 : Nat → Nat → Option Nat), r = none ∧ h' = (85, I14, J14, R14) ∧ ow_RF R14 ∧ (ow_AM M_Mo_say d [.ref 70] (85, I14, J14, R14) (fun r h' => ∃ (r15 : Int32) (I15 : Nat → Nat → Int32) (J15 : Nat → Nat → Int64) (R15 : Nat → Nat → Option Nat), r = some (.int r15) ∧ h' = (85, I15, J15, R15) ∧ ow_RF R15 ∧ (vp_in ((32 + (3 * (I 74 5))) + 1) 146 ∧ (∀ (I16 : Nat → Nat → Int32), I16 = ow_u I15 74 (((32 + (3 * (I 74 5))) + 1).toNatClampNeg) r15 → (ow_AM M_Mo_takesWord d [.ref 70, .ref (1000 + 18)] (85, I16, J15, R15) (fun r h' => ∃ (r17 : Int32) (I17 : Nat → Nat → Int32) (J17 : Nat → Nat → Int64) (R17 : Nat → Nat → Option Nat), r = some (.int r17) ∧ h' = (85, I17, J17, R17) ∧ ow_RF R17 ∧ ((r17 = 0 → (ow_AM M_Mo_say d [.ref 70] (85, I17, J17, R17) (fun r h' => ∃ (r18 : Int32) (I18 : Nat → Nat → Int32) (J18 : Nat → Nat → Int64) (R18 : Nat → Nat → Option Nat), r = some (.int r18) ∧ h' = (85, I18, J18, R18) ∧ ow_RF R18 ∧ (vp_in ((32 + (3 * (I 74 5))) + 2) 146 ∧ (∀ (I19 : Nat → Nat → Int32), I19 = ow_u I18 74 (((32 + (3 * (I 74 5))) + 2).toNatClampNeg) r18 → ((¬ (I19 70 13) = 0 → Q none (85, I19, J18, R18)) ∧ ((I19 70 13) = 0 → (∀ (I20 : Nat → Nat → Int32), I20 = ow_u I19 74 5 ((I19 74 5) + 1) → Q none (85, I20, J18, R18))))))))) ∧ (¬ r17 = 0 → (vp_in ((32 + (3 * (I 74 5))) + 2) 146 ∧ (∀ (I21 : Nat → Nat → Int32), I21 = ow_u I17 74 (((32 + (3 * (I 74 5))) + 2).toNatClampNeg) (-2) → ((¬ (I21 70 13) = 0 → Q none (85, I21, J17, R17)) ∧ ((I21 70 13) = 0 → (∀ (I22 : Nat → Nat → Int32), I22 = ow_u I21 74 5 ((I21 74 5) + 1) → Q none (85, I22, J17, R17))))))))))))))))))))) ∧ (¬ (I 70 13) = 0 → Q none (85, I, J, R)))) : ow_AM M_Mo_signedLine (d + 1) [.ref 70] (85, I, J, R) Q := by
  refine ow_enter (by decide) (Nat.le_of_ble_eq_true rfl) ?_
  show ow_AW ow_Y0 (ow_Z Q) M_Mo_signedLine (d + 1) 0 0 0 [(0, .ref 70)] [] (85, I, J, R) 0 0
  refine ow_aload_n 0 rfl d_Mo_signedLine_0 ?_
  refine ow_gI 182 d_Mo_signedLine_1 rfl rfl (by decide) rfl (Or.inr rfl) ?_
  refine ow_if_eq (tgt := 8) d_Mo_signedLine_4 (by decide) (fun c => ?_) (fun c => ?_)
  · replace T := T.1 c
    refine ow_bipush (v := 32) (by decide) d_Mo_signedLine_8 ?_
    refine ow_iconst (v := 3) (by decide) d_Mo_signedLine_10 ?_
    refine ow_aload_n 0 rfl d_Mo_signedLine_11 ?_
    refine ow_gR (a := 74) 185 d_Mo_signedLine_12 rfl rfl (by decide) rfl ⟨rfl, hR 70 16 (by decide)⟩ ?_
    refine ow_iconst (v := 5) (by decide) d_Mo_signedLine_15 ?_
    refine ow_hiaload d_Mo_signedLine_16 (by decide) rfl rfl (show vp_in (5 : Int32) 146 by unfold vp_in; decide) ?_
    show ow_AW ow_Y0 (ow_Z Q) M_Mo_signedLine (d + 1) 0 0 17 [(0, .ref 70)] [.int (I 74 5), .int 3, .int 32] (85, I, J, R) 0 0
    refine ow_imul d_Mo_signedLine_17 ?_
    refine ow_iadd d_Mo_signedLine_18 ?_
    refine ow_istore_n (ls2 := [(1, .int (32 + (3 * (I 74 5)))), (0, .ref 70)]) d_Mo_signedLine_19 (by decide) rfl ?_
    refine ow_aload_n 1 rfl d_Mo_signedLine_20 ?_
    refine ow_gR (a := 74) 185 d_Mo_signedLine_21 rfl rfl (by decide) rfl ⟨rfl, hR 70 16 (by decide)⟩ ?_
    refine ow_iload_n 0 rfl d_Mo_signedLine_24 ?_
    refine ow_aload_n 1 rfl d_Mo_signedLine_25 ?_
    refine ow_callV (b := 70) (cq := 12) (As := []) (rest := [.int (32 + (3 * (I 74 5))), .ref 74]) (d2 := d) d_Mo_signedLine_26 l_Mo_228 v_Mo_follyHere (show 70 < 85 by decide) rfl (by decide) rfl (Nat.le_of_ble_eq_true rfl) (Nat.le_refl _) ⟨Nat.le_refl _, Nat.le_refl _⟩ (ow_mono T ?_)
    rintro r h' ⟨r12, I12, J12, R12, rfl, rfl, hR12, T⟩
    show ow_AW ow_Y0 (ow_Z Q) M_Mo_signedLine (d + 1) 0 0 29 [(1, .int (32 + (3 * (I 74 5)))), (0, .ref 70)] [.int r12, .int (32 + (3 * (I 74 5))), .ref 74] (85, I12, J12, R12) 0 0
    obtain ⟨cI, T⟩ := T
    refine ow_hiastore d_Mo_signedLine_29 (by decide) rfl rfl cI ?_
    obtain ⟨I13, eI13⟩ : ∃ uu, uu = ow_u I12 74 ((32 + (3 * (I 74 5))).toNatClampNeg) r12 := ⟨_, rfl⟩
    replace T := T I13 eI13
    rw [← eI13]
    refine ow_aload_n 1 rfl d_Mo_signedLine_30 ?_
    refine ow_callV (b := 70) (cq := 12) (As := []) (rest := []) (d2 := d) d_Mo_signedLine_31 l_Mo_176 v_Mo_pass (show 70 < 85 by decide) rfl (by decide) rfl (Nat.le_of_ble_eq_true rfl) (Nat.le_refl _) ⟨Nat.le_refl _, Nat.le_refl _⟩ (ow_mono T ?_)
    rintro r h' ⟨I14, J14, R14, rfl, rfl, hR14, T⟩
    show ow_AW ow_Y0 (ow_Z Q) M_Mo_signedLine (d + 1) 0 0 34 [(1, .int (32 + (3 * (I 74 5)))), (0, .ref 70)] [] (85, I14, J14, R14) 0 0
    refine ow_aload_n 1 rfl d_Mo_signedLine_34 ?_
    refine ow_gR (a := 74) 185 d_Mo_signedLine_35 rfl rfl (by decide) rfl ⟨rfl, hR14 70 16 (by decide)⟩ ?_
    refine ow_iload_n 0 rfl d_Mo_signedLine_38 ?_
    refine ow_iconst (v := 1) (by decide) d_Mo_signedLine_39 ?_
    refine ow_iadd d_Mo_signedLine_40 ?_
    refine ow_aload_n 1 rfl d_Mo_signedLine_41 ?_
    refine ow_callV (b := 70) (cq := 12) (As := []) (rest := [.int ((32 + (3 * (I 74 5))) + 1), .ref 74]) (d2 := d) d_Mo_signedLine_42 l_Mo_240 v_Mo_say (show 70 < 85 by decide) rfl (by decide) rfl (Nat.le_of_ble_eq_true rfl) (Nat.le_refl _) ⟨Nat.le_refl _, Nat.le_refl _⟩ (ow_mono T ?_)
    rintro r h' ⟨r15, I15, J15, R15, rfl, rfl, hR15, T⟩
    show ow_AW ow_Y0 (ow_Z Q) M_Mo_signedLine (d + 1) 0 0 45 [(1, .int (32 + (3 * (I 74 5)))), (0, .ref 70)] [.int r15, .int ((32 + (3 * (I 74 5))) + 1), .ref 74] (85, I15, J15, R15) 0 0
    obtain ⟨cI, T⟩ := T
    refine ow_hiastore d_Mo_signedLine_45 (by decide) rfl rfl cI ?_
    obtain ⟨I16, eI16⟩ : ∃ uu, uu = ow_u I15 74 (((32 + (3 * (I 74 5))) + 1).toNatClampNeg) r15 := ⟨_, rfl⟩
    replace T := T I16 eI16
    rw [← eI16]
    refine ow_aload_n 1 rfl d_Mo_signedLine_46 ?_
    refine ow_gR (a := 74) 185 d_Mo_signedLine_47 rfl rfl (by decide) rfl ⟨rfl, hR15 70 16 (by decide)⟩ ?_
    refine ow_iload_n 0 rfl d_Mo_signedLine_50 ?_
    refine ow_iconst (v := 2) (by decide) d_Mo_signedLine_51 ?_
    refine ow_iadd d_Mo_signedLine_52 ?_
    refine ow_aload_n 1 rfl d_Mo_signedLine_53 ?_
    refine ow_ldS (tx := "lost") (i := 18) 37 d_Mo_signedLine_54 rfl ?_
    refine ow_callV (b := 70) (cq := 12) (As := [.ref (1000 + 18)]) (rest := [.int ((32 + (3 * (I 74 5))) + 2), .ref 74]) (d2 := d) d_Mo_signedLine_56 l_Mo_115 v_Mo_takesWord (show 70 < 85 by decide) rfl (by decide) rfl (Nat.le_of_ble_eq_true rfl) (Nat.le_refl _) ⟨Nat.le_refl _, Nat.le_refl _⟩ (ow_mono T ?_)
    rintro r h' ⟨r17, I17, J17, R17, rfl, rfl, hR17, T⟩
    show ow_AW ow_Y0 (ow_Z Q) M_Mo_signedLine (d + 1) 0 0 59 [(1, .int (32 + (3 * (I 74 5)))), (0, .ref 70)] [.int r17, .int ((32 + (3 * (I 74 5))) + 2), .ref 74] (85, I17, J17, R17) 0 0
    refine ow_if_eq (tgt := 67) d_Mo_signedLine_59 (by decide) (fun c => ?_) (fun c => ?_)
    · replace T := T.1 c
      refine ow_aload_n 1 rfl d_Mo_signedLine_67 ?_
      refine ow_callV (b := 70) (cq := 12) (As := []) (rest := [.int ((32 + (3 * (I 74 5))) + 2), .ref 74]) (d2 := d) d_Mo_signedLine_68 l_Mo_240 v_Mo_say (show 70 < 85 by decide) rfl (by decide) rfl (Nat.le_of_ble_eq_true rfl) (Nat.le_refl _) ⟨Nat.le_refl _, Nat.le_refl _⟩ (ow_mono T ?_)
      rintro r h' ⟨r18, I18, J18, R18, rfl, rfl, hR18, T⟩
      show ow_AW ow_Y0 (ow_Z Q) M_Mo_signedLine (d + 1) 0 0 71 [(1, .int (32 + (3 * (I 74 5)))), (0, .ref 70)] [.int r18, .int ((32 + (3 * (I 74 5))) + 2), .ref 74] (85, I18, J18, R18) 0 0
      obtain ⟨cI, T⟩ := T
      refine ow_hiastore d_Mo_signedLine_71 (by decide) rfl rfl cI ?_
      obtain ⟨I19, eI19⟩ : ∃ uu, uu = ow_u I18 74 (((32 + (3 * (I 74 5))) + 2).toNatClampNeg) r18 := ⟨_, rfl⟩
      replace T := T I19 eI19
      rw [← eI19]
      refine ow_aload_n 1 rfl d_Mo_signedLine_72 ?_
      refine ow_gI 182 d_Mo_signedLine_73 rfl rfl (by decide) rfl (Or.inr rfl) ?_
      refine ow_if_ne (tgt := 89) d_Mo_signedLine_76 (by decide) (fun c => ?_) (fun c => ?_)
      · replace T := T.1 c
        exact ow_vret d_Mo_signedLine_89 rfl T
      · replace T := T.2 c
        refine ow_aload_n 1 rfl d_Mo_signedLine_79 ?_
        refine ow_gR (a := 74) 185 d_Mo_signedLine_80 rfl rfl (by decide) rfl ⟨rfl, hR18 70 16 (by decide)⟩ ?_
        refine ow_iconst (v := 5) (by decide) d_Mo_signedLine_83 ?_
        refine ow_dup2_11 rfl rfl d_Mo_signedLine_84 ?_
        refine ow_hiaload d_Mo_signedLine_85 (by decide) rfl rfl (show vp_in (5 : Int32) 146 by unfold vp_in; decide) ?_
        show ow_AW ow_Y0 (ow_Z Q) M_Mo_signedLine (d + 1) 0 0 86 [(1, .int (32 + (3 * (I 74 5)))), (0, .ref 70)] [.int (I19 74 5), .int 5, .ref 74] (85, I19, J18, R18) 0 0
        refine ow_iconst (v := 1) (by decide) d_Mo_signedLine_86 ?_
        refine ow_iadd d_Mo_signedLine_87 ?_
        refine ow_hiastore d_Mo_signedLine_88 (by decide) rfl rfl (show vp_in (5 : Int32) 146 by unfold vp_in; decide) ?_
        obtain ⟨I20, eI20⟩ : ∃ uu, uu = ow_u I19 74 5 ((I19 74 5) + 1) := ⟨_, rfl⟩
        replace T := T I20 eI20
        show ow_AW ow_Y0 (ow_Z Q) M_Mo_signedLine (d + 1) 0 0 89 [(1, .int (32 + (3 * (I 74 5)))), (0, .ref 70)] [] (85, (ow_u I19 74 5 ((I19 74 5) + 1)), J18, R18) 0 0
        rw [← eI20]
        exact ow_vret d_Mo_signedLine_89 rfl T
    · replace T := T.2 c
      refine ow_bipush (v := (-2)) (by decide) d_Mo_signedLine_62 ?_
      refine ow_goto (tgt := 71) d_Mo_signedLine_64 (by decide) ?_
      obtain ⟨cI, T⟩ := T
      refine ow_hiastore d_Mo_signedLine_71 (by decide) rfl rfl cI ?_
      obtain ⟨I21, eI21⟩ : ∃ uu, uu = ow_u I17 74 (((32 + (3 * (I 74 5))) + 2).toNatClampNeg) (-2) := ⟨_, rfl⟩
      replace T := T I21 eI21
      rw [← eI21]
      refine ow_aload_n 1 rfl d_Mo_signedLine_72 ?_
      refine ow_gI 182 d_Mo_signedLine_73 rfl rfl (by decide) rfl (Or.inr rfl) ?_
      refine ow_if_ne (tgt := 89) d_Mo_signedLine_76 (by decide) (fun c => ?_) (fun c => ?_)
      · replace T := T.1 c
        exact ow_vret d_Mo_signedLine_89 rfl T
      · replace T := T.2 c
        refine ow_aload_n 1 rfl d_Mo_signedLine_79 ?_
        refine ow_gR (a := 74) 185 d_Mo_signedLine_80 rfl rfl (by decide) rfl ⟨rfl, hR17 70 16 (by decide)⟩ ?_
        refine ow_iconst (v := 5) (by decide) d_Mo_signedLine_83 ?_
        refine ow_dup2_11 rfl rfl d_Mo_signedLine_84 ?_
        refine ow_hiaload d_Mo_signedLine_85 (by decide) rfl rfl (show vp_in (5 : Int32) 146 by unfold vp_in; decide) ?_
        show ow_AW ow_Y0 (ow_Z Q) M_Mo_signedLine (d + 1) 0 0 86 [(1, .int (32 + (3 * (I 74 5)))), (0, .ref 70)] [.int (I21 74 5), .int 5, .ref 74] (85, I21, J17, R17) 0 0
        refine ow_iconst (v := 1) (by decide) d_Mo_signedLine_86 ?_
        refine ow_iadd d_Mo_signedLine_87 ?_
        refine ow_hiastore d_Mo_signedLine_88 (by decide) rfl rfl (show vp_in (5 : Int32) 146 by unfold vp_in; decide) ?_
        obtain ⟨I22, eI22⟩ : ∃ uu, uu = ow_u I21 74 5 ((I21 74 5) + 1) := ⟨_, rfl⟩
        replace T := T I22 eI22
        show ow_AW ow_Y0 (ow_Z Q) M_Mo_signedLine (d + 1) 0 0 89 [(1, .int (32 + (3 * (I 74 5)))), (0, .ref 70)] [] (85, (ow_u I21 74 5 ((I21 74 5) + 1)), J17, R17) 0 0
        rw [← eI22]
        exact ow_vret d_Mo_signedLine_89 rfl T
  · replace T := T.2 c
    exact ow_vret d_Mo_signedLine_7 rfl T
set_option maxRecDepth 4000 in
theorem t_Mo_fault {d : Nat} {I : Nat → Nat → Int32} {J : Nat → Nat → Int64} {R : Nat → Nat → Option Nat} {Q : Option Value → ow_H → Prop}   (hR : ow_RF R) (T : (∀ (I2 : Nat → Nat → Int32), I2 = ow_u I 70 0 0 → Q (some (.int (I2 70 9))) (85, I2, J, R))) : ow_AM M_Mo_fault (d + 1) [.ref 70] (85, I, J, R) Q := by
  refine ow_enter (by decide) (Nat.le_of_ble_eq_true rfl) ?_
  show ow_AW ow_Y0 (ow_Z Q) M_Mo_fault (d + 1) 0 0 0 [(0, .ref 70)] [] (85, I, J, R) 0 0
  refine ow_aload_n 0 rfl d_Mo_fault_0 ?_
  refine ow_iconst (v := 0) (by decide) d_Mo_fault_1 ?_
  refine ow_pI 169 d_Mo_fault_2 rfl rfl (by decide) rfl rfl rfl ?_
  obtain ⟨I2, eI2⟩ : ∃ uu, uu = ow_u I 70 0 0 := ⟨_, rfl⟩
  replace T := T I2 eI2
  rw [← eI2]
  refine ow_aload_n 0 rfl d_Mo_fault_5 ?_
  refine ow_gI 178 d_Mo_fault_6 rfl rfl (by decide) rfl (Or.inl rfl) ?_
  exact ow_iret d_Mo_fault_9 rfl T
set_option maxRecDepth 4000 in
theorem t_Mo_where {d : Nat} {I : Nat → Nat → Int32} {J : Nat → Nat → Int64} {R : Nat → Nat → Option Nat} {Q : Option Value → ow_H → Prop}   (hR : ow_RF R) (T : (∀ (I2 : Nat → Nat → Int32), I2 = ow_u I 70 0 0 → ((¬ (I2 70 11) = 4 → Q (some (.int (-1))) (85, I2, J, R)) ∧ ((I2 70 11) = 4 → Q (some (.int (I2 70 10))) (85, I2, J, R))))) : ow_AM M_Mo_where (d + 1) [.ref 70] (85, I, J, R) Q := by
  refine ow_enter (by decide) (Nat.le_of_ble_eq_true rfl) ?_
  show ow_AW ow_Y0 (ow_Z Q) M_Mo_where (d + 1) 0 0 0 [(0, .ref 70)] [] (85, I, J, R) 0 0
  refine ow_aload_n 0 rfl d_Mo_where_0 ?_
  refine ow_iconst (v := 0) (by decide) d_Mo_where_1 ?_
  refine ow_pI 169 d_Mo_where_2 rfl rfl (by decide) rfl rfl rfl ?_
  obtain ⟨I2, eI2⟩ : ∃ uu, uu = ow_u I 70 0 0 := ⟨_, rfl⟩
  replace T := T I2 eI2
  rw [← eI2]
  refine ow_aload_n 0 rfl d_Mo_where_5 ?_
  refine ow_gI 180 d_Mo_where_6 rfl rfl (by decide) rfl (Or.inl rfl) ?_
  refine ow_iconst (v := 4) (by decide) d_Mo_where_9 ?_
  refine ow_icmp_ne (tgt := 20) d_Mo_where_10 (by decide) (fun c => ?_) (fun c => ?_)
  · replace T := T.1 c
    refine ow_iconst (v := (-1)) (by decide) d_Mo_where_20 ?_
    exact ow_iret d_Mo_where_21 rfl T
  · replace T := T.2 c
    refine ow_aload_n 0 rfl d_Mo_where_13 ?_
    refine ow_gI 179 d_Mo_where_14 rfl rfl (by decide) rfl (Or.inl rfl) ?_
    refine ow_goto (tgt := 21) d_Mo_where_17 (by decide) ?_
    exact ow_iret d_Mo_where_21 rfl T
set_option maxRecDepth 4000 in
theorem t_Mo_isFolly {d : Nat} {I : Nat → Nat → Int32} {J : Nat → Nat → Int64} {R : Nat → Nat → Option Nat} {Q : Option Value → ow_H → Prop} {p1 : Int32}  (hR : ow_RF R) (T : (((I 70 14) = 0 → Q (some (.int 0)) (85, I, J, R)) ∧ (¬ (I 70 14) = 0 → (ow_AM M_Mo_in d [.int p1, .int 0, .int ((I 73 2) - 1)] (85, I, J, R) (fun r h' => ∃ (r2 : Int32) (I2 : Nat → Nat → Int32) (J2 : Nat → Nat → Int64) (R2 : Nat → Nat → Option Nat), r = some (.int r2) ∧ h' = (85, I2, J2, R2) ∧ ow_RF R2 ∧ ((r2 = 0 → Q (some (.int 0)) (85, I2, J2, R2)) ∧ (¬ r2 = 0 → Q (some (.int 1)) (85, I2, J2, R2)))))))) : ow_AM M_Mo_isFolly (d + 1) [.ref 70, .int p1] (85, I, J, R) Q := by
  refine ow_enter (by decide) (Nat.le_of_ble_eq_true rfl) ?_
  show ow_AW ow_Y0 (ow_Z Q) M_Mo_isFolly (d + 1) 0 0 0 [(0, .ref 70), (1, .int p1)] [] (85, I, J, R) 0 0
  refine ow_aload_n 0 rfl d_Mo_isFolly_0 ?_
  refine ow_gI 183 d_Mo_isFolly_1 rfl rfl (by decide) rfl (Or.inr rfl) ?_
  refine ow_if_eq (tgt := 27) d_Mo_isFolly_4 (by decide) (fun c => ?_) (fun c => ?_)
  · replace T := T.1 c
    refine ow_iconst (v := 0) (by decide) d_Mo_isFolly_27 ?_
    exact ow_zret d_Mo_isFolly_28 rfl (by decide) T
  · replace T := T.2 c
    refine ow_iload_n 1 rfl d_Mo_isFolly_7 ?_
    refine ow_iconst (v := 0) (by decide) d_Mo_isFolly_8 ?_
    refine ow_aload_n 0 rfl d_Mo_isFolly_9 ?_
    refine ow_gR (a := 73) 184 d_Mo_isFolly_10 rfl rfl (by decide) rfl ⟨rfl, hR 70 15 (by decide)⟩ ?_
    refine ow_iconst (v := 2) (by decide) d_Mo_isFolly_13 ?_
    refine ow_hiaload d_Mo_isFolly_14 (by decide) rfl rfl (show vp_in (2 : Int32) 146 by unfold vp_in; decide) ?_
    show ow_AW ow_Y0 (ow_Z Q) M_Mo_isFolly (d + 1) 0 0 15 [(0, .ref 70), (1, .int p1)] [.int (I 73 2), .int 0, .int p1] (85, I, J, R) 0 0
    refine ow_iconst (v := 1) (by decide) d_Mo_isFolly_15 ?_
    refine ow_isub d_Mo_isFolly_16 ?_
    refine ow_callS (As := [.int p1, .int 0, .int ((I 73 2) - 1)]) (rest := []) (d2 := d) d_Mo_isFolly_17 l_Mo_142 v_Mo_in (Nat.le_of_ble_eq_true rfl) (Nat.le_refl _) ⟨Nat.le_refl _, Nat.le_refl _⟩ (ow_mono T ?_)
    rintro r h' ⟨r2, I2, J2, R2, rfl, rfl, hR2, T⟩
    show ow_AW ow_Y0 (ow_Z Q) M_Mo_isFolly (d + 1) 0 0 20 [(0, .ref 70), (1, .int p1)] [.int r2] (85, I2, J2, R2) 0 0
    refine ow_if_eq (tgt := 27) d_Mo_isFolly_20 (by decide) (fun c => ?_) (fun c => ?_)
    · replace T := T.1 c
      refine ow_iconst (v := 0) (by decide) d_Mo_isFolly_27 ?_
      exact ow_zret d_Mo_isFolly_28 rfl (by decide) T
    · replace T := T.2 c
      refine ow_iconst (v := 1) (by decide) d_Mo_isFolly_23 ?_
      refine ow_goto (tgt := 28) d_Mo_isFolly_24 (by decide) ?_
      exact ow_zret d_Mo_isFolly_28 rfl (by decide) T
set_option maxRecDepth 4000 in
theorem t_Mo_isEstate {d : Nat} {I : Nat → Nat → Int32} {J : Nat → Nat → Int64} {R : Nat → Nat → Option Nat} {Q : Option Value → ow_H → Prop} {p1 : Int32}  (hR : ow_RF R) (T : (((I 70 14) = 0 → Q (some (.int 0)) (85, I, J, R)) ∧ (¬ (I 70 14) = 0 → (ow_AM M_Mo_in d [.int p1, .int 0, .int ((I 73 3) - 1)] (85, I, J, R) (fun r h' => ∃ (r2 : Int32) (I2 : Nat → Nat → Int32) (J2 : Nat → Nat → Int64) (R2 : Nat → Nat → Option Nat), r = some (.int r2) ∧ h' = (85, I2, J2, R2) ∧ ow_RF R2 ∧ ((r2 = 0 → Q (some (.int 0)) (85, I2, J2, R2)) ∧ (¬ r2 = 0 → Q (some (.int 1)) (85, I2, J2, R2)))))))) : ow_AM M_Mo_isEstate (d + 1) [.ref 70, .int p1] (85, I, J, R) Q := by
  refine ow_enter (by decide) (Nat.le_of_ble_eq_true rfl) ?_
  show ow_AW ow_Y0 (ow_Z Q) M_Mo_isEstate (d + 1) 0 0 0 [(0, .ref 70), (1, .int p1)] [] (85, I, J, R) 0 0
  refine ow_aload_n 0 rfl d_Mo_isEstate_0 ?_
  refine ow_gI 183 d_Mo_isEstate_1 rfl rfl (by decide) rfl (Or.inr rfl) ?_
  refine ow_if_eq (tgt := 27) d_Mo_isEstate_4 (by decide) (fun c => ?_) (fun c => ?_)
  · replace T := T.1 c
    refine ow_iconst (v := 0) (by decide) d_Mo_isEstate_27 ?_
    exact ow_zret d_Mo_isEstate_28 rfl (by decide) T
  · replace T := T.2 c
    refine ow_iload_n 1 rfl d_Mo_isEstate_7 ?_
    refine ow_iconst (v := 0) (by decide) d_Mo_isEstate_8 ?_
    refine ow_aload_n 0 rfl d_Mo_isEstate_9 ?_
    refine ow_gR (a := 73) 184 d_Mo_isEstate_10 rfl rfl (by decide) rfl ⟨rfl, hR 70 15 (by decide)⟩ ?_
    refine ow_iconst (v := 3) (by decide) d_Mo_isEstate_13 ?_
    refine ow_hiaload d_Mo_isEstate_14 (by decide) rfl rfl (show vp_in (3 : Int32) 146 by unfold vp_in; decide) ?_
    show ow_AW ow_Y0 (ow_Z Q) M_Mo_isEstate (d + 1) 0 0 15 [(0, .ref 70), (1, .int p1)] [.int (I 73 3), .int 0, .int p1] (85, I, J, R) 0 0
    refine ow_iconst (v := 1) (by decide) d_Mo_isEstate_15 ?_
    refine ow_isub d_Mo_isEstate_16 ?_
    refine ow_callS (As := [.int p1, .int 0, .int ((I 73 3) - 1)]) (rest := []) (d2 := d) d_Mo_isEstate_17 l_Mo_142 v_Mo_in (Nat.le_of_ble_eq_true rfl) (Nat.le_refl _) ⟨Nat.le_refl _, Nat.le_refl _⟩ (ow_mono T ?_)
    rintro r h' ⟨r2, I2, J2, R2, rfl, rfl, hR2, T⟩
    show ow_AW ow_Y0 (ow_Z Q) M_Mo_isEstate (d + 1) 0 0 20 [(0, .ref 70), (1, .int p1)] [.int r2] (85, I2, J2, R2) 0 0
    refine ow_if_eq (tgt := 27) d_Mo_isEstate_20 (by decide) (fun c => ?_) (fun c => ?_)
    · replace T := T.1 c
      refine ow_iconst (v := 0) (by decide) d_Mo_isEstate_27 ?_
      exact ow_zret d_Mo_isEstate_28 rfl (by decide) T
    · replace T := T.2 c
      refine ow_iconst (v := 1) (by decide) d_Mo_isEstate_23 ?_
      refine ow_goto (tgt := 28) d_Mo_isEstate_24 (by decide) ?_
      exact ow_zret d_Mo_isEstate_28 rfl (by decide) T
set_option maxRecDepth 4000 in
theorem t_Mo_asToldShapes_2 {d : Nat} {I : Nat → Nat → Int32} {J : Nat → Nat → Int64} {R : Nat → Nat → Option Nat} {Q : Option Value → ow_H → Prop}  {v1 : Int32}  (hR : ow_RF R) (T : (((I 73 2) ≤ v1 → Q none (85, I, J, R)) ∧ (¬ (I 73 2) ≤ v1 → (vp_in (7 + (2 * v1)) 146 ∧ (vp_in v1 6 ∧ (∀ (I1 : Nat → Nat → Int32), I1 = ow_u I 80 (v1.toNatClampNeg) (I 73 (7 + (2 * v1)).toNatClampNeg) → ow_AW ow_Y0 (ow_Z Q) M_Mo_asToldShapes (d + 1) 0 0 2 [(0, .ref 70), (1, .int (v1 + 1))] [] (85, I1, J, R) 0 0)))))) : ow_AW ow_Y0 (ow_Z Q) M_Mo_asToldShapes (d + 1) 0 0 2 [(0, .ref 70), (1, .int v1)] [] (85, I, J, R) 0 0 := by
  refine ow_iload_n 1 rfl d_Mo_asToldShapes_2 ?_
  refine ow_aload_n 0 rfl d_Mo_asToldShapes_3 ?_
  refine ow_gR (a := 73) 184 d_Mo_asToldShapes_4 rfl rfl (by decide) rfl ⟨rfl, hR 70 15 (by decide)⟩ ?_
  refine ow_iconst (v := 2) (by decide) d_Mo_asToldShapes_7 ?_
  refine ow_hiaload d_Mo_asToldShapes_8 (by decide) rfl rfl (show vp_in (2 : Int32) 146 by unfold vp_in; decide) ?_
  show ow_AW ow_Y0 (ow_Z Q) M_Mo_asToldShapes (d + 1) 0 0 9 [(0, .ref 70), (1, .int v1)] [.int (I 73 2), .int v1] (85, I, J, R) 0 0
  refine ow_icmp_ge (tgt := 35) d_Mo_asToldShapes_9 (by decide) (fun c => ?_) (fun c => ?_)
  · replace T := T.1 c
    exact ow_vret d_Mo_asToldShapes_35 rfl T
  · replace T := T.2 c
    refine ow_aload_n 0 rfl d_Mo_asToldShapes_12 ?_
    refine ow_gR (a := 80) 193 d_Mo_asToldShapes_13 rfl rfl (by decide) rfl ⟨rfl, hR 70 24 (by decide)⟩ ?_
    refine ow_iload_n 1 rfl d_Mo_asToldShapes_16 ?_
    refine ow_aload_n 0 rfl d_Mo_asToldShapes_17 ?_
    refine ow_gR (a := 73) 184 d_Mo_asToldShapes_18 rfl rfl (by decide) rfl ⟨rfl, hR 70 15 (by decide)⟩ ?_
    refine ow_bipush (v := 7) (by decide) d_Mo_asToldShapes_21 ?_
    refine ow_iconst (v := 2) (by decide) d_Mo_asToldShapes_23 ?_
    refine ow_iload_n 1 rfl d_Mo_asToldShapes_24 ?_
    refine ow_imul d_Mo_asToldShapes_25 ?_
    refine ow_iadd d_Mo_asToldShapes_26 ?_
    obtain ⟨cI, T⟩ := T
    refine ow_hiaload d_Mo_asToldShapes_27 (by decide) rfl rfl cI ?_
    obtain ⟨cI, T⟩ := T
    refine ow_hiastore d_Mo_asToldShapes_28 (by decide) rfl rfl cI ?_
    obtain ⟨I1, eI1⟩ : ∃ uu, uu = ow_u I 80 (v1.toNatClampNeg) (I 73 (7 + (2 * v1)).toNatClampNeg) := ⟨_, rfl⟩
    replace T := T I1 eI1
    rw [← eI1]
    refine ow_iinc 1 (v := (v1 + 1)) (ls2 := [(1, .int (v1 + 1)), (0, .ref 70)]) d_Mo_asToldShapes_29 rfl rfl (by decide) rfl ?_
    refine ow_goto (tgt := 2) d_Mo_asToldShapes_32 (by decide) ?_
    refine ow_sub [1, 0] rfl ?_
    exact T
set_option maxRecDepth 4000 in
theorem t_Mo_asToldShapes {d : Nat} {I : Nat → Nat → Int32} {J : Nat → Nat → Int64} {R : Nat → Nat → Option Nat} {Q : Option Value → ow_H → Prop}   (hR : ow_RF R) (T : ow_AW ow_Y0 (ow_Z Q) M_Mo_asToldShapes (d + 1) 0 0 2 [(0, .ref 70), (1, .int 0)] [] (85, I, J, R) 0 0) : ow_AM M_Mo_asToldShapes (d + 1) [.ref 70] (85, I, J, R) Q := by
  refine ow_enter (by decide) (Nat.le_of_ble_eq_true rfl) ?_
  show ow_AW ow_Y0 (ow_Z Q) M_Mo_asToldShapes (d + 1) 0 0 0 [(0, .ref 70)] [] (85, I, J, R) 0 0
  refine ow_iconst (v := 0) (by decide) d_Mo_asToldShapes_0 ?_
  refine ow_istore_n (ls2 := [(1, .int 0), (0, .ref 70)]) d_Mo_asToldShapes_1 (by decide) rfl ?_
  refine ow_sub [1, 0] rfl ?_
  exact T
set_option maxRecDepth 4000 in
theorem t_Mo_answerOf {d : Nat} {I : Nat → Nat → Int32} {J : Nat → Nat → Int64} {R : Nat → Nat → Option Nat} {Q : Option Value → ow_H → Prop} {a : Nat} {p1 : Int32} {p2 : Int32} (ha : a ∈ [75, 76, 77, 82]) (hR : ow_RF R) (T : (vp_in p1 6 ∧ (vp_in p1 14 ∧ ((¬ (I a p1.toNatClampNeg) = 0 → (ow_AM M_Mo_hasBit d [.int (I a 12), .int p1] (85, I, J, R) (fun r h' => ∃ (r2 : Int32) (I2 : Nat → Nat → Int32) (J2 : Nat → Nat → Int64) (R2 : Nat → Nat → Option Nat), r = some (.int r2) ∧ h' = (85, I2, J2, R2) ∧ ow_RF R2 ∧ ((r2 = 0 → ((¬ (I 80 p1.toNatClampNeg) = 0 → ((¬ (I 80 p1.toNatClampNeg) = 1 → ((¬ (I 80 p1.toNatClampNeg) = 2 → ((¬ (I 80 p1.toNatClampNeg) = 3 → Q (some (.int (-2))) (85, I2, J2, R2)) ∧ ((I 80 p1.toNatClampNeg) = 3 → ((¬ ((I2 a 13) - (I2 a 13) / 2 * 2) = 0 → Q (some (.int (1 - p2))) (85, I2, J2, R2)) ∧ (((I2 a 13) - (I2 a 13) / 2 * 2) = 0 → Q (some (.int p2)) (85, I2, J2, R2)))))) ∧ ((I 80 p1.toNatClampNeg) = 2 → Q (some (.int 1)) (85, I2, J2, R2)))) ∧ ((I 80 p1.toNatClampNeg) = 1 → Q (some (.int (1 - p2))) (85, I2, J2, R2)))) ∧ ((I 80 p1.toNatClampNeg) = 0 → Q (some (.int p2)) (85, I2, J2, R2)))) ∧ (¬ r2 = 0 → Q (some (.int 0)) (85, I2, J2, R2)))))) ∧ ((I a p1.toNatClampNeg) = 0 → Q (some (.int (-2))) (85, I, J, R)))))) : ow_AM M_Mo_answerOf (d + 1) [.ref 70, .ref a, .int p1, .int p2] (85, I, J, R) Q := by
  refine ow_enter (by decide) (Nat.le_of_ble_eq_true rfl) ?_
  show ow_AW ow_Y0 (ow_Z Q) M_Mo_answerOf (d + 1) 0 0 0 [(0, .ref 70), (1, .ref a), (2, .int p1), (3, .int p2)] [] (85, I, J, R) 0 0
  obtain ⟨a_lt, a_kd, a_n0⟩ := ow_rw_ok a ha
  refine ow_aload_n 0 rfl d_Mo_answerOf_0 ?_
  refine ow_gR (a := 80) 193 d_Mo_answerOf_1 rfl rfl (by decide) rfl ⟨rfl, hR 70 24 (by decide)⟩ ?_
  refine ow_iload_n 2 rfl d_Mo_answerOf_4 ?_
  obtain ⟨cI, T⟩ := T
  refine ow_hiaload d_Mo_answerOf_5 (by decide) rfl rfl cI ?_
  refine ow_istore (ls2 := [(4, .int (I 80 p1.toNatClampNeg)), (0, .ref 70), (1, .ref a), (2, .int p1), (3, .int p2)]) d_Mo_answerOf_6 (by decide) rfl ?_
  refine ow_aload_n 2 rfl d_Mo_answerOf_8 ?_
  refine ow_iload_n 3 rfl d_Mo_answerOf_9 ?_
  obtain ⟨cI, T⟩ := T
  refine ow_hiaload d_Mo_answerOf_10 (by omega) a_kd a_n0 cI ?_
  refine ow_if_ne (tgt := 17) d_Mo_answerOf_11 (by decide) (fun c => ?_) (fun c => ?_)
  · replace T := T.1 c
    refine ow_aload_n 2 rfl d_Mo_answerOf_17 ?_
    refine ow_bipush (v := 12) (by decide) d_Mo_answerOf_18 ?_
    refine ow_hiaload d_Mo_answerOf_20 (by omega) a_kd a_n0 (show vp_in (12 : Int32) 14 by unfold vp_in; decide) ?_
    show ow_AW ow_Y0 (ow_Z Q) M_Mo_answerOf (d + 1) 0 0 21 [(4, .int (I 80 p1.toNatClampNeg)), (0, .ref 70), (1, .ref a), (2, .int p1), (3, .int p2)] [.int (I a 12)] (85, I, J, R) 0 0
    refine ow_iload_n 3 rfl d_Mo_answerOf_21 ?_
    refine ow_callS (As := [.int (I a 12), .int p1]) (rest := []) (d2 := d) d_Mo_answerOf_22 l_Mo_231 v_Mo_hasBit (Nat.le_of_ble_eq_true rfl) (Nat.le_refl _) ⟨Nat.le_refl _, Nat.le_refl _⟩ (ow_mono T ?_)
    rintro r h' ⟨r2, I2, J2, R2, rfl, rfl, hR2, T⟩
    show ow_AW ow_Y0 (ow_Z Q) M_Mo_answerOf (d + 1) 0 0 25 [(4, .int (I 80 p1.toNatClampNeg)), (0, .ref 70), (1, .ref a), (2, .int p1), (3, .int p2)] [.int r2] (85, I2, J2, R2) 0 0
    refine ow_if_eq (tgt := 30) d_Mo_answerOf_25 (by decide) (fun c => ?_) (fun c => ?_)
    · replace T := T.1 c
      refine ow_iload 0 rfl d_Mo_answerOf_30 ?_
      refine ow_if_ne (tgt := 37) d_Mo_answerOf_32 (by decide) (fun c => ?_) (fun c => ?_)
      · replace T := T.1 c
        refine ow_iload 0 rfl d_Mo_answerOf_37 ?_
        refine ow_iconst (v := 1) (by decide) d_Mo_answerOf_39 ?_
        refine ow_icmp_ne (tgt := 47) d_Mo_answerOf_40 (by decide) (fun c => ?_) (fun c => ?_)
        · replace T := T.1 c
          refine ow_iload 0 rfl d_Mo_answerOf_47 ?_
          refine ow_iconst (v := 2) (by decide) d_Mo_answerOf_49 ?_
          refine ow_icmp_ne (tgt := 55) d_Mo_answerOf_50 (by decide) (fun c => ?_) (fun c => ?_)
          · replace T := T.1 c
            refine ow_iload 0 rfl d_Mo_answerOf_55 ?_
            refine ow_iconst (v := 3) (by decide) d_Mo_answerOf_57 ?_
            refine ow_icmp_ne (tgt := 78) d_Mo_answerOf_58 (by decide) (fun c => ?_) (fun c => ?_)
            · replace T := T.1 c
              refine ow_bipush (v := (-2)) (by decide) d_Mo_answerOf_78 ?_
              exact ow_iret d_Mo_answerOf_80 rfl T
            · replace T := T.2 c
              refine ow_aload_n 2 rfl d_Mo_answerOf_61 ?_
              refine ow_bipush (v := 13) (by decide) d_Mo_answerOf_62 ?_
              refine ow_hiaload d_Mo_answerOf_64 (by omega) a_kd a_n0 (show vp_in (13 : Int32) 14 by unfold vp_in; decide) ?_
              show ow_AW ow_Y0 (ow_Z Q) M_Mo_answerOf (d + 1) 0 0 65 [(4, .int (I 80 p1.toNatClampNeg)), (0, .ref 70), (1, .ref a), (2, .int p1), (3, .int p2)] [.int (I2 a 13)] (85, I2, J2, R2) 0 0
              refine ow_iconst (v := 2) (by decide) d_Mo_answerOf_65 ?_
              refine ow_irem (by decide) d_Mo_answerOf_66 ?_
              refine ow_if_ne (tgt := 74) d_Mo_answerOf_67 (by decide) (fun c => ?_) (fun c => ?_)
              · replace T := T.1 c
                refine ow_iconst (v := 1) (by decide) d_Mo_answerOf_74 ?_
                refine ow_iload_n 4 rfl d_Mo_answerOf_75 ?_
                refine ow_isub d_Mo_answerOf_76 ?_
                exact ow_iret d_Mo_answerOf_77 rfl T
              · replace T := T.2 c
                refine ow_iload_n 4 rfl d_Mo_answerOf_70 ?_
                refine ow_goto (tgt := 77) d_Mo_answerOf_71 (by decide) ?_
                exact ow_iret d_Mo_answerOf_77 rfl T
          · replace T := T.2 c
            refine ow_iconst (v := 1) (by decide) d_Mo_answerOf_53 ?_
            exact ow_iret d_Mo_answerOf_54 rfl T
        · replace T := T.2 c
          refine ow_iconst (v := 1) (by decide) d_Mo_answerOf_43 ?_
          refine ow_iload_n 4 rfl d_Mo_answerOf_44 ?_
          refine ow_isub d_Mo_answerOf_45 ?_
          exact ow_iret d_Mo_answerOf_46 rfl T
      · replace T := T.2 c
        refine ow_iload_n 4 rfl d_Mo_answerOf_35 ?_
        exact ow_iret d_Mo_answerOf_36 rfl T
    · replace T := T.2 c
      refine ow_iconst (v := 0) (by decide) d_Mo_answerOf_28 ?_
      exact ow_iret d_Mo_answerOf_29 rfl T
  · replace T := T.2 c
    refine ow_bipush (v := (-2)) (by decide) d_Mo_answerOf_14 ?_
    exact ow_iret d_Mo_answerOf_16 rfl T
set_option maxRecDepth 4000 in
theorem t_Mo_goOver_34 {d : Nat} {I : Nat → Nat → Int32} {J : Nat → Nat → Int64} {R : Nat → Nat → Option Nat} {Q : Option Value → ow_H → Prop} {a : Nat} {v3 : Int32} {v4 : Int32} {v5 : Int32} (ha : a ∈ [75, 76, 77, 82]) (hR : ow_RF R) (T : (ow_AM M_Mo_hasBit d [.int v5, .int v3] (85, I, J, R) (fun r h' => ∃ (r5 : Int32) (I5 : Nat → Nat → Int32) (J5 : Nat → Nat → Int64) (R5 : Nat → Nat → Option Nat), r = some (.int r5) ∧ h' = (85, I5, J5, R5) ∧ ow_RF R5 ∧ ((¬ r5 = 0 → Q none (85, I5, J5, R5)) ∧ (r5 = 0 → (vp_in (I5 70 26) 6 ∧ (∀ (I6 : Nat → Nat → Int32), I6 = ow_u I5 81 ((I5 70 26).toNatClampNeg) v3 → (∀ (I7 : Nat → Nat → Int32), I7 = ow_u I6 70 26 ((I6 70 26) + 1) → (ow_AM M_Mo_answerOf d [.ref 70, .ref a, .int v3, .int v4] (85, I7, J5, R5) (fun r h' => ∃ (r8 : Int32) (I8 : Nat → Nat → Int32) (J8 : Nat → Nat → Int64) (R8 : Nat → Nat → Option Nat), r = some (.int r8) ∧ h' = (85, I8, J8, R8) ∧ ow_RF R8 ∧ ((0 ≤ r8 → (∀ (I9 : Nat → Nat → Int32), I9 = ow_u I8 70 27 ((I8 70 27) + 1) → (vp_in (6 + v3) 14 ∧ ((¬ (I9 a (6 + v3).toNatClampNeg) = 0 → (vp_in (6 + v3) 14 ∧ ow_AW ow_Y0 (ow_Z Q) M_Mo_goOver (d + 1) 0 0 34 [(0, .ref 70), (1, .ref a), (3, .int ((I9 a (6 + v3).toNatClampNeg) - 1)), (4, .int r8), (5, .int (v5 ||| ((1 : Int32) <<< (v3 &&& 31))))] [] (85, I9, J8, R8) 0 0)) ∧ ((I9 a (6 + v3).toNatClampNeg) = 0 → (∀ (I10 : Nat → Nat → Int32), I10 = ow_u I9 70 28 v3 → (∀ (I11 : Nat → Nat → Int32), I11 = ow_u I10 70 29 r8 → Q none (85, I11, J8, R8)))))))) ∧ (¬ 0 ≤ r8 → Q none (85, I8, J8, R8))))))))))))) : ow_AW ow_Y0 (ow_Z Q) M_Mo_goOver (d + 1) 0 0 34 [(0, .ref 70), (1, .ref a), (3, .int v3), (4, .int v4), (5, .int v5)] [] (85, I, J, R) 0 0 := by
  obtain ⟨a_lt, a_kd, a_n0⟩ := ow_rw_ok a ha
  refine ow_iload 4 rfl d_Mo_goOver_34 ?_
  refine ow_iload_n 2 rfl d_Mo_goOver_36 ?_
  refine ow_callS (As := [.int v5, .int v3]) (rest := []) (d2 := d) d_Mo_goOver_37 l_Mo_231 v_Mo_hasBit (Nat.le_of_ble_eq_true rfl) (Nat.le_refl _) ⟨Nat.le_refl _, Nat.le_refl _⟩ (ow_mono T ?_)
  rintro r h' ⟨r5, I5, J5, R5, rfl, rfl, hR5, T⟩
  show ow_AW ow_Y0 (ow_Z Q) M_Mo_goOver (d + 1) 0 0 40 [(0, .ref 70), (1, .ref a), (3, .int v3), (4, .int v4), (5, .int v5)] [.int r5] (85, I5, J5, R5) 0 0
  refine ow_if_ne (tgt := 130) d_Mo_goOver_40 (by decide) (fun c => ?_) (fun c => ?_)
  · replace T := T.1 c
    exact ow_vret d_Mo_goOver_130 rfl T
  · replace T := T.2 c
    refine ow_iload 4 rfl d_Mo_goOver_43 ?_
    refine ow_iconst (v := 1) (by decide) d_Mo_goOver_45 ?_
    refine ow_iload_n 2 rfl d_Mo_goOver_46 ?_
    refine ow_ishl d_Mo_goOver_47 ?_
    refine ow_ior d_Mo_goOver_48 ?_
    refine ow_istore (ls2 := [(5, .int (v5 ||| ((1 : Int32) <<< (v3 &&& 31)))), (0, .ref 70), (1, .ref a), (3, .int v3), (4, .int v4)]) d_Mo_goOver_49 (by decide) rfl ?_
    refine ow_aload_n 1 rfl d_Mo_goOver_51 ?_
    refine ow_gR (a := 81) 194 d_Mo_goOver_52 rfl rfl (by decide) rfl ⟨rfl, hR5 70 25 (by decide)⟩ ?_
    refine ow_aload_n 1 rfl d_Mo_goOver_55 ?_
    refine ow_gI 195 d_Mo_goOver_56 rfl rfl (by decide) rfl (Or.inl rfl) ?_
    refine ow_iload_n 3 rfl d_Mo_goOver_59 ?_
    obtain ⟨cI, T⟩ := T
    refine ow_hiastore d_Mo_goOver_60 (by decide) rfl rfl cI ?_
    obtain ⟨I6, eI6⟩ : ∃ uu, uu = ow_u I5 81 ((I5 70 26).toNatClampNeg) v3 := ⟨_, rfl⟩
    replace T := T I6 eI6
    rw [← eI6]
    refine ow_aload_n 1 rfl d_Mo_goOver_61 ?_
    refine ow_dup rfl d_Mo_goOver_62 ?_
    refine ow_gI 195 d_Mo_goOver_63 rfl rfl (by decide) rfl (Or.inl rfl) ?_
    refine ow_iconst (v := 1) (by decide) d_Mo_goOver_66 ?_
    refine ow_iadd d_Mo_goOver_67 ?_
    refine ow_pI 195 d_Mo_goOver_68 rfl rfl (by decide) rfl rfl rfl ?_
    obtain ⟨I7, eI7⟩ : ∃ uu, uu = ow_u I6 70 26 ((I6 70 26) + 1) := ⟨_, rfl⟩
    replace T := T I7 eI7
    rw [← eI7]
    refine ow_aload_n 1 rfl d_Mo_goOver_71 ?_
    refine ow_aload_n 2 rfl d_Mo_goOver_72 ?_
    refine ow_iload_n 3 rfl d_Mo_goOver_73 ?_
    refine ow_iload 4 rfl d_Mo_goOver_74 ?_
    refine ow_callV (b := 70) (cq := 12) (As := [.ref a, .int v3, .int v4]) (rest := []) (d2 := d) d_Mo_goOver_76 l_Mo_257 v_Mo_answerOf (show 70 < 85 by decide) rfl (by decide) rfl (Nat.le_of_ble_eq_true rfl) (Nat.le_refl _) ⟨Nat.le_refl _, Nat.le_refl _⟩ (ow_mono T ?_)
    rintro r h' ⟨r8, I8, J8, R8, rfl, rfl, hR8, T⟩
    show ow_AW ow_Y0 (ow_Z Q) M_Mo_goOver (d + 1) 0 0 79 [(5, .int (v5 ||| ((1 : Int32) <<< (v3 &&& 31)))), (0, .ref 70), (1, .ref a), (3, .int v3), (4, .int v4)] [.int r8] (85, I8, J8, R8) 0 0
    refine ow_istore (ls2 := [(4, .int r8), (5, .int (v5 ||| ((1 : Int32) <<< (v3 &&& 31)))), (0, .ref 70), (1, .ref a), (3, .int v3)]) d_Mo_goOver_79 (by decide) rfl ?_
    refine ow_iload 0 rfl d_Mo_goOver_81 ?_
    refine ow_if_ge (tgt := 87) d_Mo_goOver_83 (by decide) (fun c => ?_) (fun c => ?_)
    · replace T := T.1 c
      refine ow_aload_n 2 rfl d_Mo_goOver_87 ?_
      refine ow_dup rfl d_Mo_goOver_88 ?_
      refine ow_gI 196 d_Mo_goOver_89 rfl rfl (by decide) rfl (Or.inl rfl) ?_
      refine ow_iconst (v := 1) (by decide) d_Mo_goOver_92 ?_
      refine ow_iadd d_Mo_goOver_93 ?_
      refine ow_pI 196 d_Mo_goOver_94 rfl rfl (by decide) rfl rfl rfl ?_
      obtain ⟨I9, eI9⟩ : ∃ uu, uu = ow_u I8 70 27 ((I8 70 27) + 1) := ⟨_, rfl⟩
      replace T := T I9 eI9
      rw [← eI9]
      refine ow_aload_n 3 rfl d_Mo_goOver_97 ?_
      refine ow_bipush (v := 6) (by decide) d_Mo_goOver_98 ?_
      refine ow_iload_n 4 rfl d_Mo_goOver_100 ?_
      refine ow_iadd d_Mo_goOver_101 ?_
      obtain ⟨cI, T⟩ := T
      refine ow_hiaload d_Mo_goOver_102 (by omega) a_kd a_n0 cI ?_
      refine ow_if_ne (tgt := 118) d_Mo_goOver_103 (by decide) (fun c => ?_) (fun c => ?_)
      · replace T := T.1 c
        refine ow_aload_n 3 rfl d_Mo_goOver_118 ?_
        refine ow_bipush (v := 6) (by decide) d_Mo_goOver_119 ?_
        refine ow_iload_n 4 rfl d_Mo_goOver_121 ?_
        refine ow_iadd d_Mo_goOver_122 ?_
        obtain ⟨cI, T⟩ := T
        refine ow_hiaload d_Mo_goOver_123 (by omega) a_kd a_n0 cI ?_
        refine ow_iconst (v := 1) (by decide) d_Mo_goOver_124 ?_
        refine ow_isub d_Mo_goOver_125 ?_
        refine ow_istore_n (ls2 := [(3, .int ((I9 a (6 + v3).toNatClampNeg) - 1)), (4, .int r8), (5, .int (v5 ||| ((1 : Int32) <<< (v3 &&& 31)))), (0, .ref 70), (1, .ref a)]) d_Mo_goOver_126 (by decide) rfl ?_
        refine ow_goto (tgt := 34) d_Mo_goOver_127 (by decide) ?_
        refine ow_sub [3, 4, 0, 1, 2] rfl ?_
        exact T
      · replace T := T.2 c
        refine ow_aload_n 2 rfl d_Mo_goOver_106 ?_
        refine ow_iload_n 4 rfl d_Mo_goOver_107 ?_
        refine ow_pI 197 d_Mo_goOver_108 rfl rfl (by decide) rfl rfl rfl ?_
        obtain ⟨I10, eI10⟩ : ∃ uu, uu = ow_u I9 70 28 v3 := ⟨_, rfl⟩
        replace T := T I10 eI10
        rw [← eI10]
        refine ow_aload_n 2 rfl d_Mo_goOver_111 ?_
        refine ow_iload 0 rfl d_Mo_goOver_112 ?_
        refine ow_pI 198 d_Mo_goOver_114 rfl rfl (by decide) rfl rfl rfl ?_
        obtain ⟨I11, eI11⟩ : ∃ uu, uu = ow_u I10 70 29 r8 := ⟨_, rfl⟩
        replace T := T I11 eI11
        rw [← eI11]
        exact ow_vret d_Mo_goOver_117 rfl T
    · replace T := T.2 c
      exact ow_vret d_Mo_goOver_86 rfl T
set_option maxRecDepth 4000 in
theorem t_Mo_goOver {d : Nat} {I : Nat → Nat → Int32} {J : Nat → Nat → Int64} {R : Nat → Nat → Option Nat} {Q : Option Value → ow_H → Prop} {a : Nat} {p1 : Int32} (ha : a ∈ [75, 76, 77, 82]) (hR : ow_RF R) (T : (∀ (I12 : Nat → Nat → Int32), I12 = ow_u I 70 26 0 → (∀ (I13 : Nat → Nat → Int32), I13 = ow_u I12 70 27 0 → (∀ (I14 : Nat → Nat → Int32), I14 = ow_u I13 70 28 (-2) → (∀ (I15 : Nat → Nat → Int32), I15 = ow_u I14 70 29 (-2) → ow_AW ow_Y0 (ow_Z Q) M_Mo_goOver (d + 1) 0 0 34 [(0, .ref 70), (1, .ref a), (3, .int (p1 / 2)), (4, .int (p1 - p1 / 2 * 2)), (5, .int 0)] [] (85, I15, J, R) 0 0))))) : ow_AM M_Mo_goOver (d + 1) [.ref 70, .ref a, .int p1] (85, I, J, R) Q := by
  refine ow_enter (by decide) (Nat.le_of_ble_eq_true rfl) ?_
  show ow_AW ow_Y0 (ow_Z Q) M_Mo_goOver (d + 1) 0 0 0 [(0, .ref 70), (1, .ref a), (2, .int p1)] [] (85, I, J, R) 0 0
  obtain ⟨a_lt, a_kd, a_n0⟩ := ow_rw_ok a ha
  refine ow_iload_n 2 rfl d_Mo_goOver_0 ?_
  refine ow_iconst (v := 2) (by decide) d_Mo_goOver_1 ?_
  refine ow_idiv (by decide) d_Mo_goOver_2 ?_
  refine ow_istore_n (ls2 := [(3, .int (p1 / 2)), (0, .ref 70), (1, .ref a), (2, .int p1)]) d_Mo_goOver_3 (by decide) rfl ?_
  refine ow_iload_n 3 rfl d_Mo_goOver_4 ?_
  refine ow_iconst (v := 2) (by decide) d_Mo_goOver_5 ?_
  refine ow_irem (by decide) d_Mo_goOver_6 ?_
  refine ow_istore (ls2 := [(4, .int (p1 - p1 / 2 * 2)), (3, .int (p1 / 2)), (0, .ref 70), (1, .ref a), (2, .int p1)]) d_Mo_goOver_7 (by decide) rfl ?_
  refine ow_iconst (v := 0) (by decide) d_Mo_goOver_9 ?_
  refine ow_istore (ls2 := [(5, .int 0), (4, .int (p1 - p1 / 2 * 2)), (3, .int (p1 / 2)), (0, .ref 70), (1, .ref a), (2, .int p1)]) d_Mo_goOver_10 (by decide) rfl ?_
  refine ow_aload_n 3 rfl d_Mo_goOver_12 ?_
  refine ow_iconst (v := 0) (by decide) d_Mo_goOver_13 ?_
  refine ow_pI 195 d_Mo_goOver_14 rfl rfl (by decide) rfl rfl rfl ?_
  obtain ⟨I12, eI12⟩ : ∃ uu, uu = ow_u I 70 26 0 := ⟨_, rfl⟩
  replace T := T I12 eI12
  rw [← eI12]
  refine ow_aload_n 3 rfl d_Mo_goOver_17 ?_
  refine ow_iconst (v := 0) (by decide) d_Mo_goOver_18 ?_
  refine ow_pI 196 d_Mo_goOver_19 rfl rfl (by decide) rfl rfl rfl ?_
  obtain ⟨I13, eI13⟩ : ∃ uu, uu = ow_u I12 70 27 0 := ⟨_, rfl⟩
  replace T := T I13 eI13
  rw [← eI13]
  refine ow_aload_n 3 rfl d_Mo_goOver_22 ?_
  refine ow_bipush (v := (-2)) (by decide) d_Mo_goOver_23 ?_
  refine ow_pI 197 d_Mo_goOver_25 rfl rfl (by decide) rfl rfl rfl ?_
  obtain ⟨I14, eI14⟩ : ∃ uu, uu = ow_u I13 70 28 (-2) := ⟨_, rfl⟩
  replace T := T I14 eI14
  rw [← eI14]
  refine ow_aload_n 3 rfl d_Mo_goOver_28 ?_
  refine ow_bipush (v := (-2)) (by decide) d_Mo_goOver_29 ?_
  refine ow_pI 198 d_Mo_goOver_31 rfl rfl (by decide) rfl rfl rfl ?_
  obtain ⟨I15, eI15⟩ : ∃ uu, uu = ow_u I14 70 29 (-2) := ⟨_, rfl⟩
  replace T := T I15 eI15
  rw [← eI15]
  refine ow_sub [3, 4, 2, 1, 0] rfl ?_
  exact T
set_option maxRecDepth 4000 in
theorem t_Mo_signsOf {d : Nat} {I : Nat → Nat → Int32} {J : Nat → Nat → Int64} {R : Nat → Nat → Option Nat} {Q : Option Value → ow_H → Prop} {a : Nat} {p1 : Int32} (ha : a ∈ [75, 76, 77, 82]) (hR : ow_RF R) (T : (ow_AM M_Mo_goOver d [.ref 70, .ref a, .int p1] (85, I, J, R) (fun r h' => ∃ (I2 : Nat → Nat → Int32) (J2 : Nat → Nat → Int64) (R2 : Nat → Nat → Option Nat), r = none ∧ h' = (85, I2, J2, R2) ∧ ow_RF R2 ∧ Q (some (.int (I2 70 29))) (85, I2, J2, R2)))) : ow_AM M_Mo_signsOf (d + 1) [.ref 70, .ref a, .int p1] (85, I, J, R) Q := by
  refine ow_enter (by decide) (Nat.le_of_ble_eq_true rfl) ?_
  show ow_AW ow_Y0 (ow_Z Q) M_Mo_signsOf (d + 1) 0 0 0 [(0, .ref 70), (1, .ref a), (2, .int p1)] [] (85, I, J, R) 0 0
  obtain ⟨a_lt, a_kd, a_n0⟩ := ow_rw_ok a ha
  refine ow_aload_n 0 rfl d_Mo_signsOf_0 ?_
  refine ow_aload_n 1 rfl d_Mo_signsOf_1 ?_
  refine ow_iload_n 2 rfl d_Mo_signsOf_2 ?_
  refine ow_callV (b := 70) (cq := 12) (As := [.ref a, .int p1]) (rest := []) (d2 := d) d_Mo_signsOf_3 l_Mo_261 v_Mo_goOver (show 70 < 85 by decide) rfl (by decide) rfl (Nat.le_of_ble_eq_true rfl) (Nat.le_refl _) ⟨Nat.le_refl _, Nat.le_refl _⟩ (ow_mono T ?_)
  rintro r h' ⟨I2, J2, R2, rfl, rfl, hR2, T⟩
  show ow_AW ow_Y0 (ow_Z Q) M_Mo_signsOf (d + 1) 0 0 6 [(0, .ref 70), (1, .ref a), (2, .int p1)] [] (85, I2, J2, R2) 0 0
  refine ow_aload_n 0 rfl d_Mo_signsOf_6 ?_
  refine ow_gI 198 d_Mo_signsOf_7 rfl rfl (by decide) rfl (Or.inl rfl) ?_
  exact ow_iret d_Mo_signsOf_10 rfl T
set_option maxRecDepth 4000 in
theorem t_Mo_estatesOf_4 {d : Nat} {I : Nat → Nat → Int32} {J : Nat → Nat → Int64} {R : Nat → Nat → Option Nat} {Q : Option Value → ow_H → Prop}  {v1 : Int32} {v2 : Int32} {v3 : Int32}  (hR : ow_RF R) (T : (((I 73 3) ≤ v3 → Q (some (.int v2)) (85, I, J, R)) ∧ (¬ (I 73 3) ≤ v3 → (vp_in (19 + (2 * v3)) 146 ∧ ((¬ (I 73 (19 + (2 * v3)).toNatClampNeg) = v1 → ow_AW ow_Y0 (ow_Z Q) M_Mo_estatesOf (d + 1) 0 0 4 [(0, .ref 70), (1, .int v1), (2, .int (v2 ||| 0)), (3, .int (v3 + 1))] [] (85, I, J, R) 0 0) ∧ ((I 73 (19 + (2 * v3)).toNatClampNeg) = v1 → ow_AW ow_Y0 (ow_Z Q) M_Mo_estatesOf (d + 1) 0 0 4 [(0, .ref 70), (1, .int v1), (2, .int (v2 ||| ((1 : Int32) <<< (v3 &&& 31)))), (3, .int (v3 + 1))] [] (85, I, J, R) 0 0)))))) : ow_AW ow_Y0 (ow_Z Q) M_Mo_estatesOf (d + 1) 0 0 4 [(0, .ref 70), (1, .int v1), (2, .int v2), (3, .int v3)] [] (85, I, J, R) 0 0 := by
  refine ow_iload_n 3 rfl d_Mo_estatesOf_4 ?_
  refine ow_aload_n 0 rfl d_Mo_estatesOf_5 ?_
  refine ow_gR (a := 73) 184 d_Mo_estatesOf_6 rfl rfl (by decide) rfl ⟨rfl, hR 70 15 (by decide)⟩ ?_
  refine ow_iconst (v := 3) (by decide) d_Mo_estatesOf_9 ?_
  refine ow_hiaload d_Mo_estatesOf_10 (by decide) rfl rfl (show vp_in (3 : Int32) 146 by unfold vp_in; decide) ?_
  show ow_AW ow_Y0 (ow_Z Q) M_Mo_estatesOf (d + 1) 0 0 11 [(0, .ref 70), (1, .int v1), (2, .int v2), (3, .int v3)] [.int (I 73 3), .int v3] (85, I, J, R) 0 0
  refine ow_icmp_ge (tgt := 45) d_Mo_estatesOf_11 (by decide) (fun c => ?_) (fun c => ?_)
  · replace T := T.1 c
    refine ow_iload_n 2 rfl d_Mo_estatesOf_45 ?_
    exact ow_iret d_Mo_estatesOf_46 rfl T
  · replace T := T.2 c
    refine ow_iload_n 2 rfl d_Mo_estatesOf_14 ?_
    refine ow_aload_n 0 rfl d_Mo_estatesOf_15 ?_
    refine ow_gR (a := 73) 184 d_Mo_estatesOf_16 rfl rfl (by decide) rfl ⟨rfl, hR 70 15 (by decide)⟩ ?_
    refine ow_bipush (v := 19) (by decide) d_Mo_estatesOf_19 ?_
    refine ow_iconst (v := 2) (by decide) d_Mo_estatesOf_21 ?_
    refine ow_iload_n 3 rfl d_Mo_estatesOf_22 ?_
    refine ow_imul d_Mo_estatesOf_23 ?_
    refine ow_iadd d_Mo_estatesOf_24 ?_
    obtain ⟨cI, T⟩ := T
    refine ow_hiaload d_Mo_estatesOf_25 (by decide) rfl rfl cI ?_
    refine ow_iload_n 1 rfl d_Mo_estatesOf_26 ?_
    refine ow_icmp_ne (tgt := 36) d_Mo_estatesOf_27 (by decide) (fun c => ?_) (fun c => ?_)
    · replace T := T.1 c
      refine ow_iconst (v := 0) (by decide) d_Mo_estatesOf_36 ?_
      refine ow_ior d_Mo_estatesOf_37 ?_
      refine ow_istore_n (ls2 := [(2, .int (v2 ||| 0)), (0, .ref 70), (1, .int v1), (3, .int v3)]) d_Mo_estatesOf_38 (by decide) rfl ?_
      refine ow_iinc 3 (v := (v3 + 1)) (ls2 := [(3, .int (v3 + 1)), (2, .int (v2 ||| 0)), (0, .ref 70), (1, .int v1)]) d_Mo_estatesOf_39 rfl rfl (by decide) rfl ?_
      refine ow_goto (tgt := 4) d_Mo_estatesOf_42 (by decide) ?_
      refine ow_sub [2, 3, 1, 0] rfl ?_
      exact T
    · replace T := T.2 c
      refine ow_iconst (v := 1) (by decide) d_Mo_estatesOf_30 ?_
      refine ow_iload_n 3 rfl d_Mo_estatesOf_31 ?_
      refine ow_ishl d_Mo_estatesOf_32 ?_
      refine ow_goto (tgt := 37) d_Mo_estatesOf_33 (by decide) ?_
      refine ow_ior d_Mo_estatesOf_37 ?_
      refine ow_istore_n (ls2 := [(2, .int (v2 ||| ((1 : Int32) <<< (v3 &&& 31)))), (0, .ref 70), (1, .int v1), (3, .int v3)]) d_Mo_estatesOf_38 (by decide) rfl ?_
      refine ow_iinc 3 (v := (v3 + 1)) (ls2 := [(3, .int (v3 + 1)), (2, .int (v2 ||| ((1 : Int32) <<< (v3 &&& 31)))), (0, .ref 70), (1, .int v1)]) d_Mo_estatesOf_39 rfl rfl (by decide) rfl ?_
      refine ow_goto (tgt := 4) d_Mo_estatesOf_42 (by decide) ?_
      refine ow_sub [2, 3, 1, 0] rfl ?_
      exact T
set_option maxRecDepth 4000 in
theorem t_Mo_estatesOf {d : Nat} {I : Nat → Nat → Int32} {J : Nat → Nat → Int64} {R : Nat → Nat → Option Nat} {Q : Option Value → ow_H → Prop} {p1 : Int32}  (hR : ow_RF R) (T : ow_AW ow_Y0 (ow_Z Q) M_Mo_estatesOf (d + 1) 0 0 4 [(0, .ref 70), (1, .int p1), (2, .int 0), (3, .int 0)] [] (85, I, J, R) 0 0) : ow_AM M_Mo_estatesOf (d + 1) [.ref 70, .int p1] (85, I, J, R) Q := by
  refine ow_enter (by decide) (Nat.le_of_ble_eq_true rfl) ?_
  show ow_AW ow_Y0 (ow_Z Q) M_Mo_estatesOf (d + 1) 0 0 0 [(0, .ref 70), (1, .int p1)] [] (85, I, J, R) 0 0
  refine ow_iconst (v := 0) (by decide) d_Mo_estatesOf_0 ?_
  refine ow_istore_n (ls2 := [(2, .int 0), (0, .ref 70), (1, .int p1)]) d_Mo_estatesOf_1 (by decide) rfl ?_
  refine ow_iconst (v := 0) (by decide) d_Mo_estatesOf_2 ?_
  refine ow_istore_n (ls2 := [(3, .int 0), (2, .int 0), (0, .ref 70), (1, .int p1)]) d_Mo_estatesOf_3 (by decide) rfl ?_
  refine ow_sub [2, 3, 1, 0] rfl ?_
  exact T
set_option maxRecDepth 4000 in
theorem t_Mo_servedBy {d : Nat} {I : Nat → Nat → Int32} {J : Nat → Nat → Int64} {R : Nat → Nat → Option Nat} {Q : Option Value → ow_H → Prop} {a : Nat} {p1 : Int32} (ha : a ∈ [75, 76, 77, 82]) (hR : ow_RF R) (T : (ow_AM M_Mo_goOver d [.ref 70, .ref a, .int p1] (85, I, J, R) (fun r h' => ∃ (I3 : Nat → Nat → Int32) (J3 : Nat → Nat → Int64) (R3 : Nat → Nat → Option Nat), r = none ∧ h' = (85, I3, J3, R3) ∧ ow_RF R3 ∧ ((¬ (I3 70 29) = 1 → Q (some (.int 0)) (85, I3, J3, R3)) ∧ ((I3 70 29) = 1 → (ow_AM M_Mo_estatesOf d [.ref 70, .int (I3 70 28)] (85, I3, J3, R3) (fun r h' => ∃ (r4 : Int32) (I4 : Nat → Nat → Int32) (J4 : Nat → Nat → Int64) (R4 : Nat → Nat → Option Nat), r = some (.int r4) ∧ h' = (85, I4, J4, R4) ∧ ow_RF R4 ∧ Q (some (.int r4)) (85, I4, J4, R4)))))))) : ow_AM M_Mo_servedBy (d + 1) [.ref 70, .ref a, .int p1] (85, I, J, R) Q := by
  refine ow_enter (by decide) (Nat.le_of_ble_eq_true rfl) ?_
  show ow_AW ow_Y0 (ow_Z Q) M_Mo_servedBy (d + 1) 0 0 0 [(0, .ref 70), (1, .ref a), (2, .int p1)] [] (85, I, J, R) 0 0
  obtain ⟨a_lt, a_kd, a_n0⟩ := ow_rw_ok a ha
  refine ow_aload_n 0 rfl d_Mo_servedBy_0 ?_
  refine ow_aload_n 1 rfl d_Mo_servedBy_1 ?_
  refine ow_iload_n 2 rfl d_Mo_servedBy_2 ?_
  refine ow_callV (b := 70) (cq := 12) (As := [.ref a, .int p1]) (rest := []) (d2 := d) d_Mo_servedBy_3 l_Mo_261 v_Mo_goOver (show 70 < 85 by decide) rfl (by decide) rfl (Nat.le_of_ble_eq_true rfl) (Nat.le_refl _) ⟨Nat.le_refl _, Nat.le_refl _⟩ (ow_mono T ?_)
  rintro r h' ⟨I3, J3, R3, rfl, rfl, hR3, T⟩
  show ow_AW ow_Y0 (ow_Z Q) M_Mo_servedBy (d + 1) 0 0 6 [(0, .ref 70), (1, .ref a), (2, .int p1)] [] (85, I3, J3, R3) 0 0
  refine ow_aload_n 0 rfl d_Mo_servedBy_6 ?_
  refine ow_gI 198 d_Mo_servedBy_7 rfl rfl (by decide) rfl (Or.inl rfl) ?_
  refine ow_iconst (v := 1) (by decide) d_Mo_servedBy_10 ?_
  refine ow_icmp_ne (tgt := 25) d_Mo_servedBy_11 (by decide) (fun c => ?_) (fun c => ?_)
  · replace T := T.1 c
    refine ow_iconst (v := 0) (by decide) d_Mo_servedBy_25 ?_
    exact ow_iret d_Mo_servedBy_26 rfl T
  · replace T := T.2 c
    refine ow_aload_n 0 rfl d_Mo_servedBy_14 ?_
    refine ow_aload_n 0 rfl d_Mo_servedBy_15 ?_
    refine ow_gI 197 d_Mo_servedBy_16 rfl rfl (by decide) rfl (Or.inl rfl) ?_
    refine ow_callV (b := 70) (cq := 12) (As := [.int (I3 70 28)]) (rest := []) (d2 := d) d_Mo_servedBy_19 l_Mo_265 v_Mo_estatesOf (show 70 < 85 by decide) rfl (by decide) rfl (Nat.le_of_ble_eq_true rfl) (Nat.le_refl _) ⟨Nat.le_refl _, Nat.le_refl _⟩ (ow_mono T ?_)
    rintro r h' ⟨r4, I4, J4, R4, rfl, rfl, hR4, T⟩
    show ow_AW ow_Y0 (ow_Z Q) M_Mo_servedBy (d + 1) 0 0 22 [(0, .ref 70), (1, .ref a), (2, .int p1)] [.int r4] (85, I4, J4, R4) 0 0
    refine ow_goto (tgt := 26) d_Mo_servedBy_22 (by decide) ?_
    exact ow_iret d_Mo_servedBy_26 rfl T
set_option maxRecDepth 4000 in
theorem t_Mo_servedOn_4 {d : Nat} {I : Nat → Nat → Int32} {J : Nat → Nat → Int64} {R : Nat → Nat → Option Nat} {Q : Option Value → ow_H → Prop} {a : Nat} {v2 : Int32} {v3 : Int32} (ha : a ∈ [75, 76, 77, 82]) (hR : ow_RF R) (T : (((2 * (I 73 2)) ≤ v3 → Q (some (.int v2)) (85, I, J, R)) ∧ (¬ (2 * (I 73 2)) ≤ v3 → (ow_AM M_Mo_servedBy d [.ref 70, .ref a, .int v3] (85, I, J, R) (fun r h' => ∃ (r1 : Int32) (I1 : Nat → Nat → Int32) (J1 : Nat → Nat → Int64) (R1 : Nat → Nat → Option Nat), r = some (.int r1) ∧ h' = (85, I1, J1, R1) ∧ ow_RF R1 ∧ ow_AW ow_Y0 (ow_Z Q) M_Mo_servedOn (d + 1) 0 0 4 [(0, .ref 70), (1, .ref a), (2, .int (v2 ||| r1)), (3, .int (v3 + 1))] [] (85, I1, J1, R1) 0 0))))) : ow_AW ow_Y0 (ow_Z Q) M_Mo_servedOn (d + 1) 0 0 4 [(0, .ref 70), (1, .ref a), (2, .int v2), (3, .int v3)] [] (85, I, J, R) 0 0 := by
  obtain ⟨a_lt, a_kd, a_n0⟩ := ow_rw_ok a ha
  refine ow_iload_n 3 rfl d_Mo_servedOn_4 ?_
  refine ow_iconst (v := 2) (by decide) d_Mo_servedOn_5 ?_
  refine ow_aload_n 0 rfl d_Mo_servedOn_6 ?_
  refine ow_gR (a := 73) 184 d_Mo_servedOn_7 rfl rfl (by decide) rfl ⟨rfl, hR 70 15 (by decide)⟩ ?_
  refine ow_iconst (v := 2) (by decide) d_Mo_servedOn_10 ?_
  refine ow_hiaload d_Mo_servedOn_11 (by decide) rfl rfl (show vp_in (2 : Int32) 146 by unfold vp_in; decide) ?_
  show ow_AW ow_Y0 (ow_Z Q) M_Mo_servedOn (d + 1) 0 0 12 [(0, .ref 70), (1, .ref a), (2, .int v2), (3, .int v3)] [.int (I 73 2), .int 2, .int v3] (85, I, J, R) 0 0
  refine ow_imul d_Mo_servedOn_12 ?_
  refine ow_icmp_ge (tgt := 31) d_Mo_servedOn_13 (by decide) (fun c => ?_) (fun c => ?_)
  · replace T := T.1 c
    refine ow_iload_n 2 rfl d_Mo_servedOn_31 ?_
    exact ow_iret d_Mo_servedOn_32 rfl T
  · replace T := T.2 c
    refine ow_iload_n 2 rfl d_Mo_servedOn_16 ?_
    refine ow_aload_n 0 rfl d_Mo_servedOn_17 ?_
    refine ow_aload_n 1 rfl d_Mo_servedOn_18 ?_
    refine ow_iload_n 3 rfl d_Mo_servedOn_19 ?_
    refine ow_callV (b := 70) (cq := 12) (As := [.ref a, .int v3]) (rest := [.int v2]) (d2 := d) d_Mo_servedOn_20 l_Mo_268 v_Mo_servedBy (show 70 < 85 by decide) rfl (by decide) rfl (Nat.le_of_ble_eq_true rfl) (Nat.le_refl _) ⟨Nat.le_refl _, Nat.le_refl _⟩ (ow_mono T ?_)
    rintro r h' ⟨r1, I1, J1, R1, rfl, rfl, hR1, T⟩
    show ow_AW ow_Y0 (ow_Z Q) M_Mo_servedOn (d + 1) 0 0 23 [(0, .ref 70), (1, .ref a), (2, .int v2), (3, .int v3)] [.int r1, .int v2] (85, I1, J1, R1) 0 0
    refine ow_ior d_Mo_servedOn_23 ?_
    refine ow_istore_n (ls2 := [(2, .int (v2 ||| r1)), (0, .ref 70), (1, .ref a), (3, .int v3)]) d_Mo_servedOn_24 (by decide) rfl ?_
    refine ow_iinc 3 (v := (v3 + 1)) (ls2 := [(3, .int (v3 + 1)), (2, .int (v2 ||| r1)), (0, .ref 70), (1, .ref a)]) d_Mo_servedOn_25 rfl rfl (by decide) rfl ?_
    refine ow_goto (tgt := 4) d_Mo_servedOn_28 (by decide) ?_
    refine ow_sub [2, 3, 1, 0] rfl ?_
    exact T
set_option maxRecDepth 4000 in
theorem t_Mo_servedOn {d : Nat} {I : Nat → Nat → Int32} {J : Nat → Nat → Int64} {R : Nat → Nat → Option Nat} {Q : Option Value → ow_H → Prop} {a : Nat} (ha : a ∈ [75, 76, 77, 82]) (hR : ow_RF R) (T : ow_AW ow_Y0 (ow_Z Q) M_Mo_servedOn (d + 1) 0 0 4 [(0, .ref 70), (1, .ref a), (2, .int 0), (3, .int 0)] [] (85, I, J, R) 0 0) : ow_AM M_Mo_servedOn (d + 1) [.ref 70, .ref a] (85, I, J, R) Q := by
  refine ow_enter (by decide) (Nat.le_of_ble_eq_true rfl) ?_
  show ow_AW ow_Y0 (ow_Z Q) M_Mo_servedOn (d + 1) 0 0 0 [(0, .ref 70), (1, .ref a)] [] (85, I, J, R) 0 0
  obtain ⟨a_lt, a_kd, a_n0⟩ := ow_rw_ok a ha
  refine ow_iconst (v := 0) (by decide) d_Mo_servedOn_0 ?_
  refine ow_istore_n (ls2 := [(2, .int 0), (0, .ref 70), (1, .ref a)]) d_Mo_servedOn_1 (by decide) rfl ?_
  refine ow_iconst (v := 0) (by decide) d_Mo_servedOn_2 ?_
  refine ow_istore_n (ls2 := [(3, .int 0), (2, .int 0), (0, .ref 70), (1, .ref a)]) d_Mo_servedOn_3 (by decide) rfl ?_
  refine ow_sub [2, 3, 1, 0] rfl ?_
  exact T
set_option maxRecDepth 4000 in
theorem t_Mo_letterOf {d : Nat} {I : Nat → Nat → Int32} {J : Nat → Nat → Int64} {R : Nat → Nat → Option Nat} {Q : Option Value → ow_H → Prop} {p1 : Int32} {p2 : Int32}  (hR : ow_RF R) (T : ((p2 = 0 → Q (some (.int ((2 * p1) + 0))) (85, I, J, R)) ∧ (¬ p2 = 0 → Q (some (.int ((2 * p1) + 1))) (85, I, J, R)))) : ow_AM M_Mo_letterOf (d + 1) [.ref 70, .int p1, .int p2] (85, I, J, R) Q := by
  refine ow_enter (by decide) (Nat.le_of_ble_eq_true rfl) ?_
  show ow_AW ow_Y0 (ow_Z Q) M_Mo_letterOf (d + 1) 0 0 0 [(0, .ref 70), (1, .int p1), (2, .int p2)] [] (85, I, J, R) 0 0
  refine ow_iconst (v := 2) (by decide) d_Mo_letterOf_0 ?_
  refine ow_iload_n 1 rfl d_Mo_letterOf_1 ?_
  refine ow_imul d_Mo_letterOf_2 ?_
  refine ow_iload_n 2 rfl d_Mo_letterOf_3 ?_
  refine ow_if_eq (tgt := 11) d_Mo_letterOf_4 (by decide) (fun c => ?_) (fun c => ?_)
  · replace T := T.1 c
    refine ow_iconst (v := 0) (by decide) d_Mo_letterOf_11 ?_
    refine ow_iadd d_Mo_letterOf_12 ?_
    exact ow_iret d_Mo_letterOf_13 rfl T
  · replace T := T.2 c
    refine ow_iconst (v := 1) (by decide) d_Mo_letterOf_7 ?_
    refine ow_goto (tgt := 12) d_Mo_letterOf_8 (by decide) ?_
    refine ow_iadd d_Mo_letterOf_12 ?_
    exact ow_iret d_Mo_letterOf_13 rfl T
set_option maxRecDepth 4000 in
theorem t_Mo_ruinIn {d : Nat} {I : Nat → Nat → Int32} {J : Nat → Nat → Int64} {R : Nat → Nat → Option Nat} {Q : Option Value → ow_H → Prop} {p1 : Int32}  (hR : ow_RF R) (T : (vp_in p1 14 ∧ ((¬ (I 77 p1.toNatClampNeg) = 0 → ((¬ (I 73 1) = 0 → (vp_in p1 14 ∧ (¬ (I 73 1) = 0 ∧ Q (some (.int ((((I 77 p1.toNatClampNeg) + (I 73 1)) - 1) / (I 73 1)))) (85, I, J, R)))) ∧ ((I 73 1) = 0 → Q (some (.int (-2))) (85, I, J, R)))) ∧ ((I 77 p1.toNatClampNeg) = 0 → Q (some (.int 0)) (85, I, J, R))))) : ow_AM M_Mo_ruinIn (d + 1) [.ref 70, .int p1] (85, I, J, R) Q := by
  refine ow_enter (by decide) (Nat.le_of_ble_eq_true rfl) ?_
  show ow_AW ow_Y0 (ow_Z Q) M_Mo_ruinIn (d + 1) 0 0 0 [(0, .ref 70), (1, .int p1)] [] (85, I, J, R) 0 0
  refine ow_aload_n 0 rfl d_Mo_ruinIn_0 ?_
  refine ow_gR (a := 77) 188 d_Mo_ruinIn_1 rfl rfl (by decide) rfl ⟨rfl, hR 70 19 (by decide)⟩ ?_
  refine ow_iload_n 1 rfl d_Mo_ruinIn_4 ?_
  obtain ⟨cI, T⟩ := T
  refine ow_hiaload d_Mo_ruinIn_5 (by decide) rfl rfl cI ?_
  refine ow_if_ne (tgt := 13) d_Mo_ruinIn_6 (by decide) (fun c => ?_) (fun c => ?_)
  · replace T := T.1 c
    refine ow_aload_n 0 rfl d_Mo_ruinIn_13 ?_
    refine ow_gR (a := 73) 184 d_Mo_ruinIn_14 rfl rfl (by decide) rfl ⟨rfl, hR 70 15 (by decide)⟩ ?_
    refine ow_iconst (v := 1) (by decide) d_Mo_ruinIn_17 ?_
    refine ow_hiaload d_Mo_ruinIn_18 (by decide) rfl rfl (show vp_in (1 : Int32) 146 by unfold vp_in; decide) ?_
    show ow_AW ow_Y0 (ow_Z Q) M_Mo_ruinIn (d + 1) 0 0 19 [(0, .ref 70), (1, .int p1)] [.int (I 73 1)] (85, I, J, R) 0 0
    refine ow_if_ne (tgt := 27) d_Mo_ruinIn_19 (by decide) (fun c => ?_) (fun c => ?_)
    · replace T := T.1 c
      refine ow_aload_n 0 rfl d_Mo_ruinIn_27 ?_
      refine ow_gR (a := 77) 188 d_Mo_ruinIn_28 rfl rfl (by decide) rfl ⟨rfl, hR 70 19 (by decide)⟩ ?_
      refine ow_iload_n 1 rfl d_Mo_ruinIn_31 ?_
      obtain ⟨cI, T⟩ := T
      refine ow_hiaload d_Mo_ruinIn_32 (by decide) rfl rfl cI ?_
      refine ow_aload_n 0 rfl d_Mo_ruinIn_33 ?_
      refine ow_gR (a := 73) 184 d_Mo_ruinIn_34 rfl rfl (by decide) rfl ⟨rfl, hR 70 15 (by decide)⟩ ?_
      refine ow_iconst (v := 1) (by decide) d_Mo_ruinIn_37 ?_
      refine ow_hiaload d_Mo_ruinIn_38 (by decide) rfl rfl (show vp_in (1 : Int32) 146 by unfold vp_in; decide) ?_
      show ow_AW ow_Y0 (ow_Z Q) M_Mo_ruinIn (d + 1) 0 0 39 [(0, .ref 70), (1, .int p1)] [.int (I 73 1), .int (I 77 p1.toNatClampNeg)] (85, I, J, R) 0 0
      refine ow_iadd d_Mo_ruinIn_39 ?_
      refine ow_iconst (v := 1) (by decide) d_Mo_ruinIn_40 ?_
      refine ow_isub d_Mo_ruinIn_41 ?_
      refine ow_aload_n 0 rfl d_Mo_ruinIn_42 ?_
      refine ow_gR (a := 73) 184 d_Mo_ruinIn_43 rfl rfl (by decide) rfl ⟨rfl, hR 70 15 (by decide)⟩ ?_
      refine ow_iconst (v := 1) (by decide) d_Mo_ruinIn_46 ?_
      refine ow_hiaload d_Mo_ruinIn_47 (by decide) rfl rfl (show vp_in (1 : Int32) 146 by unfold vp_in; decide) ?_
      show ow_AW ow_Y0 (ow_Z Q) M_Mo_ruinIn (d + 1) 0 0 48 [(0, .ref 70), (1, .int p1)] [.int (I 73 1), .int (((I 77 p1.toNatClampNeg) + (I 73 1)) - 1)] (85, I, J, R) 0 0
      obtain ⟨c, T⟩ := T
      refine ow_idiv c d_Mo_ruinIn_48 ?_
      exact ow_iret d_Mo_ruinIn_49 rfl T
    · replace T := T.2 c
      refine ow_bipush (v := (-2)) (by decide) d_Mo_ruinIn_22 ?_
      refine ow_goto (tgt := 49) d_Mo_ruinIn_24 (by decide) ?_
      exact ow_iret d_Mo_ruinIn_49 rfl T
  · replace T := T.2 c
    refine ow_iconst (v := 0) (by decide) d_Mo_ruinIn_9 ?_
    refine ow_goto (tgt := 49) d_Mo_ruinIn_10 (by decide) ?_
    exact ow_iret d_Mo_ruinIn_49 rfl T
set_option maxRecDepth 4000 in
theorem t_Mo_folly {d : Nat} {I : Nat → Nat → Int32} {J : Nat → Nat → Int64} {R : Nat → Nat → Option Nat} {Q : Option Value → ow_H → Prop} {p1 : Int32} {p2 : Int32}  (hR : ow_RF R) (T : (ow_AM M_Mo_good d [.ref 70] (85, I, J, R) (fun r h' => ∃ (I8 : Nat → Nat → Int32) (J8 : Nat → Nat → Int64) (R8 : Nat → Nat → Option Nat), r = none ∧ h' = (85, I8, J8, R8) ∧ ow_RF R8 ∧ (ow_AM M_Mo_isFolly d [.ref 70, .int p1] (85, I8, J8, R8) (fun r h' => ∃ (r9 : Int32) (I9 : Nat → Nat → Int32) (J9 : Nat → Nat → Int64) (R9 : Nat → Nat → Option Nat), r = some (.int r9) ∧ h' = (85, I9, J9, R9) ∧ ow_RF R9 ∧ ((r9 = 0 → (ow_AM M_Mo_no d [.ref 70, .int 1] (85, I9, J9, R9) (fun r h' => ∃ (r10 : Int32) (I10 : Nat → Nat → Int32) (J10 : Nat → Nat → Int64) (R10 : Nat → Nat → Option Nat), r = some (.int r10) ∧ h' = (85, I10, J10, R10) ∧ ow_RF R10 ∧ Q (some (.int r10)) (85, I10, J10, R10)))) ∧ (¬ r9 = 0 → (ow_AM M_Mo_in d [.int p2, .int 0, .int 5] (85, I9, J9, R9) (fun r h' => ∃ (r11 : Int32) (I11 : Nat → Nat → Int32) (J11 : Nat → Nat → Int64) (R11 : Nat → Nat → Option Nat), r = some (.int r11) ∧ h' = (85, I11, J11, R11) ∧ ow_RF R11 ∧ ((¬ r11 = 0 → ((p2 = 0 → (vp_in (7 + (2 * p1)) 146 ∧ Q (some (.int (I11 73 (7 + (2 * p1)).toNatClampNeg))) (85, I11, J11, R11))) ∧ ((p2 = 1 → (vp_in p1 14 ∧ Q (some (.int (I11 77 p1.toNatClampNeg))) (85, I11, J11, R11))) ∧ ((p2 = 2 → Q (some (.int (((I11 77 12) >>> (p1 &&& 31)) &&& 1))) (85, I11, J11, R11)) ∧ ((p2 = 3 → (vp_in (6 + p1) 14 ∧ ((¬ (I11 77 (6 + p1).toNatClampNeg) = 0 → (vp_in (6 + p1) 14 ∧ Q (some (.int ((I11 77 (6 + p1).toNatClampNeg) - 1))) (85, I11, J11, R11))) ∧ ((I11 77 (6 + p1).toNatClampNeg) = 0 → Q (some (.int (-2))) (85, I11, J11, R11))))) ∧ ((p2 = 4 → (ow_AM M_Mo_estatesOf d [.ref 70, .int p1] (85, I11, J11, R11) (fun r h' => ∃ (r12 : Int32) (I12 : Nat → Nat → Int32) (J12 : Nat → Nat → Int64) (R12 : Nat → Nat → Option Nat), r = some (.int r12) ∧ h' = (85, I12, J12, R12) ∧ ow_RF R12 ∧ Q (some (.int r12)) (85, I12, J12, R12)))) ∧ (¬ p2 = 0 ∧ ¬ p2 = 1 ∧ ¬ p2 = 2 ∧ ¬ p2 = 3 ∧ ¬ p2 = 4 → (ow_AM M_Mo_ruinIn d [.ref 70, .int p1] (85, I11, J11, R11) (fun r h' => ∃ (r13 : Int32) (I13 : Nat → Nat → Int32) (J13 : Nat → Nat → Int64) (R13 : Nat → Nat → Option Nat), r = some (.int r13) ∧ h' = (85, I13, J13, R13) ∧ ow_RF R13 ∧ Q (some (.int r13)) (85, I13, J13, R13)))))))))) ∧ (r11 = 0 → (ow_AM M_Mo_no d [.ref 70, .int 1] (85, I11, J11, R11) (fun r h' => ∃ (r14 : Int32) (I14 : Nat → Nat → Int32) (J14 : Nat → Nat → Int64) (R14 : Nat → Nat → Option Nat), r = some (.int r14) ∧ h' = (85, I14, J14, R14) ∧ ow_RF R14 ∧ Q (some (.int r14)) (85, I14, J14, R14)))))))))))))) : ow_AM M_Mo_folly (d + 1) [.ref 70, .int p1, .int p2] (85, I, J, R) Q := by
  refine ow_enter (by decide) (Nat.le_of_ble_eq_true rfl) ?_
  show ow_AW ow_Y0 (ow_Z Q) M_Mo_folly (d + 1) 0 0 0 [(0, .ref 70), (1, .int p1), (2, .int p2)] [] (85, I, J, R) 0 0
  refine ow_aload_n 0 rfl d_Mo_folly_0 ?_
  refine ow_callV (b := 70) (cq := 12) (As := []) (rest := []) (d2 := d) d_Mo_folly_1 l_Mo_154 v_Mo_good (show 70 < 85 by decide) rfl (by decide) rfl (Nat.le_of_ble_eq_true rfl) (Nat.le_refl _) ⟨Nat.le_refl _, Nat.le_refl _⟩ (ow_mono T ?_)
  rintro r h' ⟨I8, J8, R8, rfl, rfl, hR8, T⟩
  show ow_AW ow_Y0 (ow_Z Q) M_Mo_folly (d + 1) 0 0 4 [(0, .ref 70), (1, .int p1), (2, .int p2)] [] (85, I8, J8, R8) 0 0
  refine ow_aload_n 0 rfl d_Mo_folly_4 ?_
  refine ow_iload_n 1 rfl d_Mo_folly_5 ?_
  refine ow_callV (b := 70) (cq := 12) (As := [.int p1]) (rest := []) (d2 := d) d_Mo_folly_6 l_Mo_272 v_Mo_isFolly (show 70 < 85 by decide) rfl (by decide) rfl (Nat.le_of_ble_eq_true rfl) (Nat.le_refl _) ⟨Nat.le_refl _, Nat.le_refl _⟩ (ow_mono T ?_)
  rintro r h' ⟨r9, I9, J9, R9, rfl, rfl, hR9, T⟩
  show ow_AW ow_Y0 (ow_Z Q) M_Mo_folly (d + 1) 0 0 9 [(0, .ref 70), (1, .int p1), (2, .int p2)] [.int r9] (85, I9, J9, R9) 0 0
  refine ow_if_eq (tgt := 21) d_Mo_folly_9 (by decide) (fun c => ?_) (fun c => ?_)
  · replace T := T.1 c
    refine ow_aload_n 0 rfl d_Mo_folly_21 ?_
    refine ow_iconst (v := 1) (by decide) d_Mo_folly_22 ?_
    refine ow_callV (b := 70) (cq := 12) (As := [.int 1]) (rest := []) (d2 := d) d_Mo_folly_23 l_Mo_157 v_Mo_no (show 70 < 85 by decide) rfl (by decide) rfl (Nat.le_of_ble_eq_true rfl) (Nat.le_refl _) ⟨Nat.le_refl _, Nat.le_refl _⟩ (ow_mono T ?_)
    rintro r h' ⟨r10, I10, J10, R10, rfl, rfl, hR10, T⟩
    show ow_AW ow_Y0 (ow_Z Q) M_Mo_folly (d + 1) 0 0 26 [(0, .ref 70), (1, .int p1), (2, .int p2)] [.int r10] (85, I10, J10, R10) 0 0
    exact ow_iret d_Mo_folly_26 rfl T
  · replace T := T.2 c
    refine ow_iload_n 2 rfl d_Mo_folly_12 ?_
    refine ow_iconst (v := 0) (by decide) d_Mo_folly_13 ?_
    refine ow_iconst (v := 5) (by decide) d_Mo_folly_14 ?_
    refine ow_callS (As := [.int p2, .int 0, .int 5]) (rest := []) (d2 := d) d_Mo_folly_15 l_Mo_142 v_Mo_in (Nat.le_of_ble_eq_true rfl) (Nat.le_refl _) ⟨Nat.le_refl _, Nat.le_refl _⟩ (ow_mono T ?_)
    rintro r h' ⟨r11, I11, J11, R11, rfl, rfl, hR11, T⟩
    show ow_AW ow_Y0 (ow_Z Q) M_Mo_folly (d + 1) 0 0 18 [(0, .ref 70), (1, .int p1), (2, .int p2)] [.int r11] (85, I11, J11, R11) 0 0
    refine ow_if_ne (tgt := 27) d_Mo_folly_18 (by decide) (fun c => ?_) (fun c => ?_)
    · replace T := T.1 c
      refine ow_iload_n 2 rfl d_Mo_folly_27 ?_
      by_cases c0 : p2 = 0
      · replace T := T.1 c0
        refine ow_tabIn (off := 36) (tgt := 64) d_Mo_folly_28 (by rw [c0]; decide) (by rw [c0]; decide) (by rw [c0]; rfl) (by decide) ?_
        refine ow_aload_n 0 rfl d_Mo_folly_64 ?_
        refine ow_gR (a := 73) 184 d_Mo_folly_65 rfl rfl (by decide) rfl ⟨rfl, hR11 70 15 (by decide)⟩ ?_
        refine ow_bipush (v := 7) (by decide) d_Mo_folly_68 ?_
        refine ow_iconst (v := 2) (by decide) d_Mo_folly_70 ?_
        refine ow_iload_n 1 rfl d_Mo_folly_71 ?_
        refine ow_imul d_Mo_folly_72 ?_
        refine ow_iadd d_Mo_folly_73 ?_
        obtain ⟨cI, T⟩ := T
        refine ow_hiaload d_Mo_folly_74 (by decide) rfl rfl cI ?_
        exact ow_iret d_Mo_folly_75 rfl T
      replace T := T.2
      by_cases c1 : p2 = 1
      · replace T := T.1 c1
        refine ow_tabIn (off := 48) (tgt := 76) d_Mo_folly_28 (by rw [c1]; decide) (by rw [c1]; decide) (by rw [c1]; rfl) (by decide) ?_
        refine ow_aload_n 0 rfl d_Mo_folly_76 ?_
        refine ow_gR (a := 77) 188 d_Mo_folly_77 rfl rfl (by decide) rfl ⟨rfl, hR11 70 19 (by decide)⟩ ?_
        refine ow_iload_n 1 rfl d_Mo_folly_80 ?_
        obtain ⟨cI, T⟩ := T
        refine ow_hiaload d_Mo_folly_81 (by decide) rfl rfl cI ?_
        exact ow_iret d_Mo_folly_82 rfl T
      replace T := T.2
      by_cases c2 : p2 = 2
      · replace T := T.1 c2
        refine ow_tabIn (off := 55) (tgt := 83) d_Mo_folly_28 (by rw [c2]; decide) (by rw [c2]; decide) (by rw [c2]; rfl) (by decide) ?_
        refine ow_aload_n 0 rfl d_Mo_folly_83 ?_
        refine ow_gR (a := 77) 188 d_Mo_folly_84 rfl rfl (by decide) rfl ⟨rfl, hR11 70 19 (by decide)⟩ ?_
        refine ow_bipush (v := 12) (by decide) d_Mo_folly_87 ?_
        refine ow_hiaload d_Mo_folly_89 (by decide) rfl rfl (show vp_in (12 : Int32) 14 by unfold vp_in; decide) ?_
        show ow_AW ow_Y0 (ow_Z Q) M_Mo_folly (d + 1) 0 0 90 [(0, .ref 70), (1, .int p1), (2, .int p2)] [.int (I11 77 12)] (85, I11, J11, R11) 0 0
        refine ow_iload_n 1 rfl d_Mo_folly_90 ?_
        refine ow_ishr d_Mo_folly_91 ?_
        refine ow_iconst (v := 1) (by decide) d_Mo_folly_92 ?_
        refine ow_iand d_Mo_folly_93 ?_
        exact ow_iret d_Mo_folly_94 rfl T
      replace T := T.2
      by_cases c3 : p2 = 3
      · replace T := T.1 c3
        refine ow_tabIn (off := 67) (tgt := 95) d_Mo_folly_28 (by rw [c3]; decide) (by rw [c3]; decide) (by rw [c3]; rfl) (by decide) ?_
        refine ow_aload_n 0 rfl d_Mo_folly_95 ?_
        refine ow_gR (a := 77) 188 d_Mo_folly_96 rfl rfl (by decide) rfl ⟨rfl, hR11 70 19 (by decide)⟩ ?_
        refine ow_bipush (v := 6) (by decide) d_Mo_folly_99 ?_
        refine ow_iload_n 1 rfl d_Mo_folly_101 ?_
        refine ow_iadd d_Mo_folly_102 ?_
        obtain ⟨cI, T⟩ := T
        refine ow_hiaload d_Mo_folly_103 (by decide) rfl rfl cI ?_
        refine ow_if_ne (tgt := 112) d_Mo_folly_104 (by decide) (fun c => ?_) (fun c => ?_)
        · replace T := T.1 c
          refine ow_aload_n 0 rfl d_Mo_folly_112 ?_
          refine ow_gR (a := 77) 188 d_Mo_folly_113 rfl rfl (by decide) rfl ⟨rfl, hR11 70 19 (by decide)⟩ ?_
          refine ow_bipush (v := 6) (by decide) d_Mo_folly_116 ?_
          refine ow_iload_n 1 rfl d_Mo_folly_118 ?_
          refine ow_iadd d_Mo_folly_119 ?_
          obtain ⟨cI, T⟩ := T
          refine ow_hiaload d_Mo_folly_120 (by decide) rfl rfl cI ?_
          refine ow_iconst (v := 1) (by decide) d_Mo_folly_121 ?_
          refine ow_isub d_Mo_folly_122 ?_
          exact ow_iret d_Mo_folly_123 rfl T
        · replace T := T.2 c
          refine ow_bipush (v := (-2)) (by decide) d_Mo_folly_107 ?_
          refine ow_goto (tgt := 123) d_Mo_folly_109 (by decide) ?_
          exact ow_iret d_Mo_folly_123 rfl T
      replace T := T.2
      by_cases c4 : p2 = 4
      · replace T := T.1 c4
        refine ow_tabIn (off := 96) (tgt := 124) d_Mo_folly_28 (by rw [c4]; decide) (by rw [c4]; decide) (by rw [c4]; rfl) (by decide) ?_
        refine ow_aload_n 0 rfl d_Mo_folly_124 ?_
        refine ow_iload_n 1 rfl d_Mo_folly_125 ?_
        refine ow_callV (b := 70) (cq := 12) (As := [.int p1]) (rest := []) (d2 := d) d_Mo_folly_126 l_Mo_265 v_Mo_estatesOf (show 70 < 85 by decide) rfl (by decide) rfl (Nat.le_of_ble_eq_true rfl) (Nat.le_refl _) ⟨Nat.le_refl _, Nat.le_refl _⟩ (ow_mono T ?_)
        rintro r h' ⟨r12, I12, J12, R12, rfl, rfl, hR12, T⟩
        show ow_AW ow_Y0 (ow_Z Q) M_Mo_folly (d + 1) 0 0 129 [(0, .ref 70), (1, .int p1), (2, .int p2)] [.int r12] (85, I12, J12, R12) 0 0
        exact ow_iret d_Mo_folly_129 rfl T
      replace T := T.2
      replace T := T ⟨c0, c1, c2, c3, c4⟩
      replace c0 := ow_ne (z := 0) c0 rfl
      replace c1 := ow_ne (z := 1) c1 rfl
      replace c2 := ow_ne (z := 2) c2 rfl
      replace c3 := ow_ne (z := 3) c3 rfl
      replace c4 := ow_ne (z := 4) c4 rfl
      refine ow_tabOut (tgt := 130) d_Mo_folly_28 (by omega) (by decide) ?_
      refine ow_aload_n 0 rfl d_Mo_folly_130 ?_
      refine ow_iload_n 1 rfl d_Mo_folly_131 ?_
      refine ow_callV (b := 70) (cq := 12) (As := [.int p1]) (rest := []) (d2 := d) d_Mo_folly_132 l_Mo_275 v_Mo_ruinIn (show 70 < 85 by decide) rfl (by decide) rfl (Nat.le_of_ble_eq_true rfl) (Nat.le_refl _) ⟨Nat.le_refl _, Nat.le_refl _⟩ (ow_mono T ?_)
      rintro r h' ⟨r13, I13, J13, R13, rfl, rfl, hR13, T⟩
      show ow_AW ow_Y0 (ow_Z Q) M_Mo_folly (d + 1) 0 0 135 [(0, .ref 70), (1, .int p1), (2, .int p2)] [.int r13] (85, I13, J13, R13) 0 0
      exact ow_iret d_Mo_folly_135 rfl T
    · replace T := T.2 c
      refine ow_aload_n 0 rfl d_Mo_folly_21 ?_
      refine ow_iconst (v := 1) (by decide) d_Mo_folly_22 ?_
      refine ow_callV (b := 70) (cq := 12) (As := [.int 1]) (rest := []) (d2 := d) d_Mo_folly_23 l_Mo_157 v_Mo_no (show 70 < 85 by decide) rfl (by decide) rfl (Nat.le_of_ble_eq_true rfl) (Nat.le_refl _) ⟨Nat.le_refl _, Nat.le_refl _⟩ (ow_mono T ?_)
      rintro r h' ⟨r14, I14, J14, R14, rfl, rfl, hR14, T⟩
      show ow_AW ow_Y0 (ow_Z Q) M_Mo_folly (d + 1) 0 0 26 [(0, .ref 70), (1, .int p1), (2, .int p2)] [.int r14] (85, I14, J14, R14) 0 0
      exact ow_iret d_Mo_folly_26 rfl T
set_option maxRecDepth 4000 in
theorem t_Mo_estate {d : Nat} {I : Nat → Nat → Int32} {J : Nat → Nat → Int64} {R : Nat → Nat → Option Nat} {Q : Option Value → ow_H → Prop} {p1 : Int32} {p2 : Int32}  (hR : ow_RF R) (T : (ow_AM M_Mo_good d [.ref 70] (85, I, J, R) (fun r h' => ∃ (I8 : Nat → Nat → Int32) (J8 : Nat → Nat → Int64) (R8 : Nat → Nat → Option Nat), r = none ∧ h' = (85, I8, J8, R8) ∧ ow_RF R8 ∧ (ow_AM M_Mo_isEstate d [.ref 70, .int p1] (85, I8, J8, R8) (fun r h' => ∃ (r9 : Int32) (I9 : Nat → Nat → Int32) (J9 : Nat → Nat → Int64) (R9 : Nat → Nat → Option Nat), r = some (.int r9) ∧ h' = (85, I9, J9, R9) ∧ ow_RF R9 ∧ ((r9 = 0 → (ow_AM M_Mo_no d [.ref 70, .int 1] (85, I9, J9, R9) (fun r h' => ∃ (r10 : Int32) (I10 : Nat → Nat → Int32) (J10 : Nat → Nat → Int64) (R10 : Nat → Nat → Option Nat), r = some (.int r10) ∧ h' = (85, I10, J10, R10) ∧ ow_RF R10 ∧ Q (some (.int r10)) (85, I10, J10, R10)))) ∧ (¬ r9 = 0 → (ow_AM M_Mo_in d [.int p2, .int 0, .int 2] (85, I9, J9, R9) (fun r h' => ∃ (r11 : Int32) (I11 : Nat → Nat → Int32) (J11 : Nat → Nat → Int64) (R11 : Nat → Nat → Option Nat), r = some (.int r11) ∧ h' = (85, I11, J11, R11) ∧ ow_RF R11 ∧ ((¬ r11 = 0 → (ow_AM M_Mo_asToldShapes d [.ref 70] (85, I11, J11, R11) (fun r h' => ∃ (I12 : Nat → Nat → Int32) (J12 : Nat → Nat → Int64) (R12 : Nat → Nat → Option Nat), r = none ∧ h' = (85, I12, J12, R12) ∧ ow_RF R12 ∧ ((2 ≤ p2 → (ow_AM M_Mo_servedOn d [.ref 70, .ref 77] (85, I12, J12, R12) (fun r h' => ∃ (r13 : Int32) (I13 : Nat → Nat → Int32) (J13 : Nat → Nat → Int64) (R13 : Nat → Nat → Option Nat), r = some (.int r13) ∧ h' = (85, I13, J13, R13) ∧ ow_RF R13 ∧ Q (some (.int ((r13 >>> (p1 &&& 31)) &&& 1))) (85, I13, J13, R13)))) ∧ (¬ 2 ≤ p2 → (vp_in ((19 + (2 * p1)) + p2) 146 ∧ Q (some (.int (I12 73 ((19 + (2 * p1)) + p2).toNatClampNeg))) (85, I12, J12, R12))))))) ∧ (r11 = 0 → (ow_AM M_Mo_no d [.ref 70, .int 1] (85, I11, J11, R11) (fun r h' => ∃ (r14 : Int32) (I14 : Nat → Nat → Int32) (J14 : Nat → Nat → Int64) (R14 : Nat → Nat → Option Nat), r = some (.int r14) ∧ h' = (85, I14, J14, R14) ∧ ow_RF R14 ∧ Q (some (.int r14)) (85, I14, J14, R14)))))))))))))) : ow_AM M_Mo_estate (d + 1) [.ref 70, .int p1, .int p2] (85, I, J, R) Q := by
  refine ow_enter (by decide) (Nat.le_of_ble_eq_true rfl) ?_
  show ow_AW ow_Y0 (ow_Z Q) M_Mo_estate (d + 1) 0 0 0 [(0, .ref 70), (1, .int p1), (2, .int p2)] [] (85, I, J, R) 0 0
  refine ow_aload_n 0 rfl d_Mo_estate_0 ?_
  refine ow_callV (b := 70) (cq := 12) (As := []) (rest := []) (d2 := d) d_Mo_estate_1 l_Mo_154 v_Mo_good (show 70 < 85 by decide) rfl (by decide) rfl (Nat.le_of_ble_eq_true rfl) (Nat.le_refl _) ⟨Nat.le_refl _, Nat.le_refl _⟩ (ow_mono T ?_)
  rintro r h' ⟨I8, J8, R8, rfl, rfl, hR8, T⟩
  show ow_AW ow_Y0 (ow_Z Q) M_Mo_estate (d + 1) 0 0 4 [(0, .ref 70), (1, .int p1), (2, .int p2)] [] (85, I8, J8, R8) 0 0
  refine ow_aload_n 0 rfl d_Mo_estate_4 ?_
  refine ow_iload_n 1 rfl d_Mo_estate_5 ?_
  refine ow_callV (b := 70) (cq := 12) (As := [.int p1]) (rest := []) (d2 := d) d_Mo_estate_6 l_Mo_278 v_Mo_isEstate (show 70 < 85 by decide) rfl (by decide) rfl (Nat.le_of_ble_eq_true rfl) (Nat.le_refl _) ⟨Nat.le_refl _, Nat.le_refl _⟩ (ow_mono T ?_)
  rintro r h' ⟨r9, I9, J9, R9, rfl, rfl, hR9, T⟩
  show ow_AW ow_Y0 (ow_Z Q) M_Mo_estate (d + 1) 0 0 9 [(0, .ref 70), (1, .int p1), (2, .int p2)] [.int r9] (85, I9, J9, R9) 0 0
  refine ow_if_eq (tgt := 21) d_Mo_estate_9 (by decide) (fun c => ?_) (fun c => ?_)
  · replace T := T.1 c
    refine ow_aload_n 0 rfl d_Mo_estate_21 ?_
    refine ow_iconst (v := 1) (by decide) d_Mo_estate_22 ?_
    refine ow_callV (b := 70) (cq := 12) (As := [.int 1]) (rest := []) (d2 := d) d_Mo_estate_23 l_Mo_157 v_Mo_no (show 70 < 85 by decide) rfl (by decide) rfl (Nat.le_of_ble_eq_true rfl) (Nat.le_refl _) ⟨Nat.le_refl _, Nat.le_refl _⟩ (ow_mono T ?_)
    rintro r h' ⟨r10, I10, J10, R10, rfl, rfl, hR10, T⟩
    show ow_AW ow_Y0 (ow_Z Q) M_Mo_estate (d + 1) 0 0 26 [(0, .ref 70), (1, .int p1), (2, .int p2)] [.int r10] (85, I10, J10, R10) 0 0
    exact ow_iret d_Mo_estate_26 rfl T
  · replace T := T.2 c
    refine ow_iload_n 2 rfl d_Mo_estate_12 ?_
    refine ow_iconst (v := 0) (by decide) d_Mo_estate_13 ?_
    refine ow_iconst (v := 2) (by decide) d_Mo_estate_14 ?_
    refine ow_callS (As := [.int p2, .int 0, .int 2]) (rest := []) (d2 := d) d_Mo_estate_15 l_Mo_142 v_Mo_in (Nat.le_of_ble_eq_true rfl) (Nat.le_refl _) ⟨Nat.le_refl _, Nat.le_refl _⟩ (ow_mono T ?_)
    rintro r h' ⟨r11, I11, J11, R11, rfl, rfl, hR11, T⟩
    show ow_AW ow_Y0 (ow_Z Q) M_Mo_estate (d + 1) 0 0 18 [(0, .ref 70), (1, .int p1), (2, .int p2)] [.int r11] (85, I11, J11, R11) 0 0
    refine ow_if_ne (tgt := 27) d_Mo_estate_18 (by decide) (fun c => ?_) (fun c => ?_)
    · replace T := T.1 c
      refine ow_aload_n 0 rfl d_Mo_estate_27 ?_
      refine ow_callV (b := 70) (cq := 12) (As := []) (rest := []) (d2 := d) d_Mo_estate_28 l_Mo_281 v_Mo_asToldShapes (show 70 < 85 by decide) rfl (by decide) rfl (Nat.le_of_ble_eq_true rfl) (Nat.le_refl _) ⟨Nat.le_refl _, Nat.le_refl _⟩ (ow_mono T ?_)
      rintro r h' ⟨I12, J12, R12, rfl, rfl, hR12, T⟩
      show ow_AW ow_Y0 (ow_Z Q) M_Mo_estate (d + 1) 0 0 31 [(0, .ref 70), (1, .int p1), (2, .int p2)] [] (85, I12, J12, R12) 0 0
      refine ow_iload_n 2 rfl d_Mo_estate_31 ?_
      refine ow_iconst (v := 2) (by decide) d_Mo_estate_32 ?_
      refine ow_icmp_ge (tgt := 52) d_Mo_estate_33 (by decide) (fun c => ?_) (fun c => ?_)
      · replace T := T.1 c
        refine ow_aload_n 0 rfl d_Mo_estate_52 ?_
        refine ow_aload_n 0 rfl d_Mo_estate_53 ?_
        refine ow_gR (a := 77) 188 d_Mo_estate_54 rfl rfl (by decide) rfl ⟨rfl, hR12 70 19 (by decide)⟩ ?_
        refine ow_callV (b := 70) (cq := 12) (As := [.ref 77]) (rest := []) (d2 := d) d_Mo_estate_57 l_Mo_284 v_Mo_servedOn (show 70 < 85 by decide) rfl (by decide) rfl (Nat.le_of_ble_eq_true rfl) (Nat.le_refl _) ⟨Nat.le_refl _, Nat.le_refl _⟩ (ow_mono T ?_)
        rintro r h' ⟨r13, I13, J13, R13, rfl, rfl, hR13, T⟩
        show ow_AW ow_Y0 (ow_Z Q) M_Mo_estate (d + 1) 0 0 60 [(0, .ref 70), (1, .int p1), (2, .int p2)] [.int r13] (85, I13, J13, R13) 0 0
        refine ow_iload_n 1 rfl d_Mo_estate_60 ?_
        refine ow_ishr d_Mo_estate_61 ?_
        refine ow_iconst (v := 1) (by decide) d_Mo_estate_62 ?_
        refine ow_iand d_Mo_estate_63 ?_
        exact ow_iret d_Mo_estate_64 rfl T
      · replace T := T.2 c
        refine ow_aload_n 0 rfl d_Mo_estate_36 ?_
        refine ow_gR (a := 73) 184 d_Mo_estate_37 rfl rfl (by decide) rfl ⟨rfl, hR12 70 15 (by decide)⟩ ?_
        refine ow_bipush (v := 19) (by decide) d_Mo_estate_40 ?_
        refine ow_iconst (v := 2) (by decide) d_Mo_estate_42 ?_
        refine ow_iload_n 1 rfl d_Mo_estate_43 ?_
        refine ow_imul d_Mo_estate_44 ?_
        refine ow_iadd d_Mo_estate_45 ?_
        refine ow_iload_n 2 rfl d_Mo_estate_46 ?_
        refine ow_iadd d_Mo_estate_47 ?_
        obtain ⟨cI, T⟩ := T
        refine ow_hiaload d_Mo_estate_48 (by decide) rfl rfl cI ?_
        refine ow_goto (tgt := 64) d_Mo_estate_49 (by decide) ?_
        exact ow_iret d_Mo_estate_64 rfl T
    · replace T := T.2 c
      refine ow_aload_n 0 rfl d_Mo_estate_21 ?_
      refine ow_iconst (v := 1) (by decide) d_Mo_estate_22 ?_
      refine ow_callV (b := 70) (cq := 12) (As := [.int 1]) (rest := []) (d2 := d) d_Mo_estate_23 l_Mo_157 v_Mo_no (show 70 < 85 by decide) rfl (by decide) rfl (Nat.le_of_ble_eq_true rfl) (Nat.le_refl _) ⟨Nat.le_refl _, Nat.le_refl _⟩ (ow_mono T ?_)
      rintro r h' ⟨r14, I14, J14, R14, rfl, rfl, hR14, T⟩
      show ow_AW ow_Y0 (ow_Z Q) M_Mo_estate (d + 1) 0 0 26 [(0, .ref 70), (1, .int p1), (2, .int p2)] [.int r14] (85, I14, J14, R14) 0 0
      exact ow_iret d_Mo_estate_26 rfl T
set_option maxRecDepth 4000 in
theorem t_Mo_answers {d : Nat} {I : Nat → Nat → Int32} {J : Nat → Nat → Int64} {R : Nat → Nat → Option Nat} {Q : Option Value → ow_H → Prop} {p1 : Int32} {p2 : Int32}  (hR : ow_RF R) (T : (ow_AM M_Mo_good d [.ref 70] (85, I, J, R) (fun r h' => ∃ (I7 : Nat → Nat → Int32) (J7 : Nat → Nat → Int64) (R7 : Nat → Nat → Option Nat), r = none ∧ h' = (85, I7, J7, R7) ∧ ow_RF R7 ∧ (ow_AM M_Mo_isFolly d [.ref 70, .int p1] (85, I7, J7, R7) (fun r h' => ∃ (r8 : Int32) (I8 : Nat → Nat → Int32) (J8 : Nat → Nat → Int64) (R8 : Nat → Nat → Option Nat), r = some (.int r8) ∧ h' = (85, I8, J8, R8) ∧ ow_RF R8 ∧ ((¬ r8 = 0 → (ow_AM M_Mo_asToldShapes d [.ref 70] (85, I8, J8, R8) (fun r h' => ∃ (I9 : Nat → Nat → Int32) (J9 : Nat → Nat → Int64) (R9 : Nat → Nat → Option Nat), r = none ∧ h' = (85, I9, J9, R9) ∧ ow_RF R9 ∧ ((p2 = 0 → (ow_AM M_Mo_answerOf d [.ref 70, .ref 77, .int p1, .int 0] (85, I9, J9, R9) (fun r h' => ∃ (r10 : Int32) (I10 : Nat → Nat → Int32) (J10 : Nat → Nat → Int64) (R10 : Nat → Nat → Option Nat), r = some (.int r10) ∧ h' = (85, I10, J10, R10) ∧ ow_RF R10 ∧ Q (some (.int r10)) (85, I10, J10, R10)))) ∧ (¬ p2 = 0 → (ow_AM M_Mo_answerOf d [.ref 70, .ref 77, .int p1, .int 1] (85, I9, J9, R9) (fun r h' => ∃ (r11 : Int32) (I11 : Nat → Nat → Int32) (J11 : Nat → Nat → Int64) (R11 : Nat → Nat → Option Nat), r = some (.int r11) ∧ h' = (85, I11, J11, R11) ∧ ow_RF R11 ∧ Q (some (.int r11)) (85, I11, J11, R11)))))))) ∧ (r8 = 0 → (ow_AM M_Mo_no d [.ref 70, .int 1] (85, I8, J8, R8) (fun r h' => ∃ (r12 : Int32) (I12 : Nat → Nat → Int32) (J12 : Nat → Nat → Int64) (R12 : Nat → Nat → Option Nat), r = some (.int r12) ∧ h' = (85, I12, J12, R12) ∧ ow_RF R12 ∧ Q (some (.int r12)) (85, I12, J12, R12)))))))))) : ow_AM M_Mo_answers (d + 1) [.ref 70, .int p1, .int p2] (85, I, J, R) Q := by
  refine ow_enter (by decide) (Nat.le_of_ble_eq_true rfl) ?_
  show ow_AW ow_Y0 (ow_Z Q) M_Mo_answers (d + 1) 0 0 0 [(0, .ref 70), (1, .int p1), (2, .int p2)] [] (85, I, J, R) 0 0
  refine ow_aload_n 0 rfl d_Mo_answers_0 ?_
  refine ow_callV (b := 70) (cq := 12) (As := []) (rest := []) (d2 := d) d_Mo_answers_1 l_Mo_154 v_Mo_good (show 70 < 85 by decide) rfl (by decide) rfl (Nat.le_of_ble_eq_true rfl) (Nat.le_refl _) ⟨Nat.le_refl _, Nat.le_refl _⟩ (ow_mono T ?_)
  rintro r h' ⟨I7, J7, R7, rfl, rfl, hR7, T⟩
  show ow_AW ow_Y0 (ow_Z Q) M_Mo_answers (d + 1) 0 0 4 [(0, .ref 70), (1, .int p1), (2, .int p2)] [] (85, I7, J7, R7) 0 0
  refine ow_aload_n 0 rfl d_Mo_answers_4 ?_
  refine ow_iload_n 1 rfl d_Mo_answers_5 ?_
  refine ow_callV (b := 70) (cq := 12) (As := [.int p1]) (rest := []) (d2 := d) d_Mo_answers_6 l_Mo_272 v_Mo_isFolly (show 70 < 85 by decide) rfl (by decide) rfl (Nat.le_of_ble_eq_true rfl) (Nat.le_refl _) ⟨Nat.le_refl _, Nat.le_refl _⟩ (ow_mono T ?_)
  rintro r h' ⟨r8, I8, J8, R8, rfl, rfl, hR8, T⟩
  show ow_AW ow_Y0 (ow_Z Q) M_Mo_answers (d + 1) 0 0 9 [(0, .ref 70), (1, .int p1), (2, .int p2)] [.int r8] (85, I8, J8, R8) 0 0
  refine ow_if_ne (tgt := 18) d_Mo_answers_9 (by decide) (fun c => ?_) (fun c => ?_)
  · replace T := T.1 c
    refine ow_aload_n 0 rfl d_Mo_answers_18 ?_
    refine ow_callV (b := 70) (cq := 12) (As := []) (rest := []) (d2 := d) d_Mo_answers_19 l_Mo_281 v_Mo_asToldShapes (show 70 < 85 by decide) rfl (by decide) rfl (Nat.le_of_ble_eq_true rfl) (Nat.le_refl _) ⟨Nat.le_refl _, Nat.le_refl _⟩ (ow_mono T ?_)
    rintro r h' ⟨I9, J9, R9, rfl, rfl, hR9, T⟩
    show ow_AW ow_Y0 (ow_Z Q) M_Mo_answers (d + 1) 0 0 22 [(0, .ref 70), (1, .int p1), (2, .int p2)] [] (85, I9, J9, R9) 0 0
    refine ow_aload_n 0 rfl d_Mo_answers_22 ?_
    refine ow_aload_n 0 rfl d_Mo_answers_23 ?_
    refine ow_gR (a := 77) 188 d_Mo_answers_24 rfl rfl (by decide) rfl ⟨rfl, hR9 70 19 (by decide)⟩ ?_
    refine ow_iload_n 1 rfl d_Mo_answers_27 ?_
    refine ow_iload_n 2 rfl d_Mo_answers_28 ?_
    refine ow_if_eq (tgt := 36) d_Mo_answers_29 (by decide) (fun c => ?_) (fun c => ?_)
    · replace T := T.1 c
      refine ow_iconst (v := 0) (by decide) d_Mo_answers_36 ?_
      refine ow_callV (b := 70) (cq := 12) (As := [.ref 77, .int p1, .int 0]) (rest := []) (d2 := d) d_Mo_answers_37 l_Mo_257 v_Mo_answerOf (show 70 < 85 by decide) rfl (by decide) rfl (Nat.le_of_ble_eq_true rfl) (Nat.le_refl _) ⟨Nat.le_refl _, Nat.le_refl _⟩ (ow_mono T ?_)
      rintro r h' ⟨r10, I10, J10, R10, rfl, rfl, hR10, T⟩
      show ow_AW ow_Y0 (ow_Z Q) M_Mo_answers (d + 1) 0 0 40 [(0, .ref 70), (1, .int p1), (2, .int p2)] [.int r10] (85, I10, J10, R10) 0 0
      exact ow_iret d_Mo_answers_40 rfl T
    · replace T := T.2 c
      refine ow_iconst (v := 1) (by decide) d_Mo_answers_32 ?_
      refine ow_goto (tgt := 37) d_Mo_answers_33 (by decide) ?_
      refine ow_callV (b := 70) (cq := 12) (As := [.ref 77, .int p1, .int 1]) (rest := []) (d2 := d) d_Mo_answers_37 l_Mo_257 v_Mo_answerOf (show 70 < 85 by decide) rfl (by decide) rfl (Nat.le_of_ble_eq_true rfl) (Nat.le_refl _) ⟨Nat.le_refl _, Nat.le_refl _⟩ (ow_mono T ?_)
      rintro r h' ⟨r11, I11, J11, R11, rfl, rfl, hR11, T⟩
      show ow_AW ow_Y0 (ow_Z Q) M_Mo_answers (d + 1) 0 0 40 [(0, .ref 70), (1, .int p1), (2, .int p2)] [.int r11] (85, I11, J11, R11) 0 0
      exact ow_iret d_Mo_answers_40 rfl T
  · replace T := T.2 c
    refine ow_aload_n 0 rfl d_Mo_answers_12 ?_
    refine ow_iconst (v := 1) (by decide) d_Mo_answers_13 ?_
    refine ow_callV (b := 70) (cq := 12) (As := [.int 1]) (rest := []) (d2 := d) d_Mo_answers_14 l_Mo_157 v_Mo_no (show 70 < 85 by decide) rfl (by decide) rfl (Nat.le_of_ble_eq_true rfl) (Nat.le_refl _) ⟨Nat.le_refl _, Nat.le_refl _⟩ (ow_mono T ?_)
    rintro r h' ⟨r12, I12, J12, R12, rfl, rfl, hR12, T⟩
    show ow_AW ow_Y0 (ow_Z Q) M_Mo_answers (d + 1) 0 0 17 [(0, .ref 70), (1, .int p1), (2, .int p2)] [.int r12] (85, I12, J12, R12) 0 0
    exact ow_iret d_Mo_answers_17 rfl T
set_option maxRecDepth 4000 in
theorem t_Mo_signs {d : Nat} {I : Nat → Nat → Int32} {J : Nat → Nat → Int64} {R : Nat → Nat → Option Nat} {Q : Option Value → ow_H → Prop} {p1 : Int32} {p2 : Int32}  (hR : ow_RF R) (T : (ow_AM M_Mo_good d [.ref 70] (85, I, J, R) (fun r h' => ∃ (I7 : Nat → Nat → Int32) (J7 : Nat → Nat → Int64) (R7 : Nat → Nat → Option Nat), r = none ∧ h' = (85, I7, J7, R7) ∧ ow_RF R7 ∧ (ow_AM M_Mo_isFolly d [.ref 70, .int p1] (85, I7, J7, R7) (fun r h' => ∃ (r8 : Int32) (I8 : Nat → Nat → Int32) (J8 : Nat → Nat → Int64) (R8 : Nat → Nat → Option Nat), r = some (.int r8) ∧ h' = (85, I8, J8, R8) ∧ ow_RF R8 ∧ ((¬ r8 = 0 → (ow_AM M_Mo_asToldShapes d [.ref 70] (85, I8, J8, R8) (fun r h' => ∃ (I9 : Nat → Nat → Int32) (J9 : Nat → Nat → Int64) (R9 : Nat → Nat → Option Nat), r = none ∧ h' = (85, I9, J9, R9) ∧ ow_RF R9 ∧ (ow_AM M_Mo_letterOf d [.ref 70, .int p1, .int p2] (85, I9, J9, R9) (fun r h' => ∃ (r10 : Int32) (I10 : Nat → Nat → Int32) (J10 : Nat → Nat → Int64) (R10 : Nat → Nat → Option Nat), r = some (.int r10) ∧ h' = (85, I10, J10, R10) ∧ ow_RF R10 ∧ (ow_AM M_Mo_signsOf d [.ref 70, .ref 77, .int r10] (85, I10, J10, R10) (fun r h' => ∃ (r11 : Int32) (I11 : Nat → Nat → Int32) (J11 : Nat → Nat → Int64) (R11 : Nat → Nat → Option Nat), r = some (.int r11) ∧ h' = (85, I11, J11, R11) ∧ ow_RF R11 ∧ Q (some (.int r11)) (85, I11, J11, R11)))))))) ∧ (r8 = 0 → (ow_AM M_Mo_no d [.ref 70, .int 1] (85, I8, J8, R8) (fun r h' => ∃ (r12 : Int32) (I12 : Nat → Nat → Int32) (J12 : Nat → Nat → Int64) (R12 : Nat → Nat → Option Nat), r = some (.int r12) ∧ h' = (85, I12, J12, R12) ∧ ow_RF R12 ∧ Q (some (.int r12)) (85, I12, J12, R12)))))))))) : ow_AM M_Mo_signs (d + 1) [.ref 70, .int p1, .int p2] (85, I, J, R) Q := by
  refine ow_enter (by decide) (Nat.le_of_ble_eq_true rfl) ?_
  show ow_AW ow_Y0 (ow_Z Q) M_Mo_signs (d + 1) 0 0 0 [(0, .ref 70), (1, .int p1), (2, .int p2)] [] (85, I, J, R) 0 0
  refine ow_aload_n 0 rfl d_Mo_signs_0 ?_
  refine ow_callV (b := 70) (cq := 12) (As := []) (rest := []) (d2 := d) d_Mo_signs_1 l_Mo_154 v_Mo_good (show 70 < 85 by decide) rfl (by decide) rfl (Nat.le_of_ble_eq_true rfl) (Nat.le_refl _) ⟨Nat.le_refl _, Nat.le_refl _⟩ (ow_mono T ?_)
  rintro r h' ⟨I7, J7, R7, rfl, rfl, hR7, T⟩
  show ow_AW ow_Y0 (ow_Z Q) M_Mo_signs (d + 1) 0 0 4 [(0, .ref 70), (1, .int p1), (2, .int p2)] [] (85, I7, J7, R7) 0 0
  refine ow_aload_n 0 rfl d_Mo_signs_4 ?_
  refine ow_iload_n 1 rfl d_Mo_signs_5 ?_
  refine ow_callV (b := 70) (cq := 12) (As := [.int p1]) (rest := []) (d2 := d) d_Mo_signs_6 l_Mo_272 v_Mo_isFolly (show 70 < 85 by decide) rfl (by decide) rfl (Nat.le_of_ble_eq_true rfl) (Nat.le_refl _) ⟨Nat.le_refl _, Nat.le_refl _⟩ (ow_mono T ?_)
  rintro r h' ⟨r8, I8, J8, R8, rfl, rfl, hR8, T⟩
  show ow_AW ow_Y0 (ow_Z Q) M_Mo_signs (d + 1) 0 0 9 [(0, .ref 70), (1, .int p1), (2, .int p2)] [.int r8] (85, I8, J8, R8) 0 0
  refine ow_if_ne (tgt := 18) d_Mo_signs_9 (by decide) (fun c => ?_) (fun c => ?_)
  · replace T := T.1 c
    refine ow_aload_n 0 rfl d_Mo_signs_18 ?_
    refine ow_callV (b := 70) (cq := 12) (As := []) (rest := []) (d2 := d) d_Mo_signs_19 l_Mo_281 v_Mo_asToldShapes (show 70 < 85 by decide) rfl (by decide) rfl (Nat.le_of_ble_eq_true rfl) (Nat.le_refl _) ⟨Nat.le_refl _, Nat.le_refl _⟩ (ow_mono T ?_)
    rintro r h' ⟨I9, J9, R9, rfl, rfl, hR9, T⟩
    show ow_AW ow_Y0 (ow_Z Q) M_Mo_signs (d + 1) 0 0 22 [(0, .ref 70), (1, .int p1), (2, .int p2)] [] (85, I9, J9, R9) 0 0
    refine ow_aload_n 0 rfl d_Mo_signs_22 ?_
    refine ow_aload_n 0 rfl d_Mo_signs_23 ?_
    refine ow_gR (a := 77) 188 d_Mo_signs_24 rfl rfl (by decide) rfl ⟨rfl, hR9 70 19 (by decide)⟩ ?_
    refine ow_aload_n 0 rfl d_Mo_signs_27 ?_
    refine ow_iload_n 1 rfl d_Mo_signs_28 ?_
    refine ow_iload_n 2 rfl d_Mo_signs_29 ?_
    refine ow_callV (b := 70) (cq := 12) (As := [.int p1, .int p2]) (rest := [.ref 77, .ref 70]) (d2 := d) d_Mo_signs_30 l_Mo_288 v_Mo_letterOf (show 70 < 85 by decide) rfl (by decide) rfl (Nat.le_of_ble_eq_true rfl) (Nat.le_refl _) ⟨Nat.le_refl _, Nat.le_refl _⟩ (ow_mono T ?_)
    rintro r h' ⟨r10, I10, J10, R10, rfl, rfl, hR10, T⟩
    show ow_AW ow_Y0 (ow_Z Q) M_Mo_signs (d + 1) 0 0 33 [(0, .ref 70), (1, .int p1), (2, .int p2)] [.int r10, .ref 77, .ref 70] (85, I10, J10, R10) 0 0
    refine ow_callV (b := 70) (cq := 12) (As := [.ref 77, .int r10]) (rest := []) (d2 := d) d_Mo_signs_33 l_Mo_292 v_Mo_signsOf (show 70 < 85 by decide) rfl (by decide) rfl (Nat.le_of_ble_eq_true rfl) (Nat.le_refl _) ⟨Nat.le_refl _, Nat.le_refl _⟩ (ow_mono T ?_)
    rintro r h' ⟨r11, I11, J11, R11, rfl, rfl, hR11, T⟩
    show ow_AW ow_Y0 (ow_Z Q) M_Mo_signs (d + 1) 0 0 36 [(0, .ref 70), (1, .int p1), (2, .int p2)] [.int r11] (85, I11, J11, R11) 0 0
    exact ow_iret d_Mo_signs_36 rfl T
  · replace T := T.2 c
    refine ow_aload_n 0 rfl d_Mo_signs_12 ?_
    refine ow_iconst (v := 1) (by decide) d_Mo_signs_13 ?_
    refine ow_callV (b := 70) (cq := 12) (As := [.int 1]) (rest := []) (d2 := d) d_Mo_signs_14 l_Mo_157 v_Mo_no (show 70 < 85 by decide) rfl (by decide) rfl (Nat.le_of_ble_eq_true rfl) (Nat.le_refl _) ⟨Nat.le_refl _, Nat.le_refl _⟩ (ow_mono T ?_)
    rintro r h' ⟨r12, I12, J12, R12, rfl, rfl, hR12, T⟩
    show ow_AW ow_Y0 (ow_Z Q) M_Mo_signs (d + 1) 0 0 17 [(0, .ref 70), (1, .int p1), (2, .int p2)] [.int r12] (85, I12, J12, R12) 0 0
    exact ow_iret d_Mo_signs_17 rfl T
