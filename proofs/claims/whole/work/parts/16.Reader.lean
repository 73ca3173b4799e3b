/-! Own rows, by program: Reader_read Reader_fail Reader_readLine Reader_lineOf Reader_readShire Reader_readFolly Reader_readSends Reader_readHermit Reader_readEstate Reader_readVeiled Reader_readSigned Reader_passWord Reader_takeWhole Reader_takeNewName Reader_takeFolly Reader_takeShape Reader_takeAnswer Reader_follyNamed Reader_isEstateNamed -/
theorem d_Reader_read_0 : decode M_Reader_read.2.1 0 = .ok (.aload_n 0, 1) := by decide +kernel
theorem d_Reader_read_1 : decode M_Reader_read.2.1 1 = .ok (.getfield 12, 3) := by decide +kernel
theorem d_Reader_read_4 : decode M_Reader_read.2.1 4 = .ok (.invokevirtual 32, 3) := by decide +kernel
theorem d_Reader_read_7 : decode M_Reader_read.2.1 7 = .ok (.aload_n 0, 1) := by decide +kernel
theorem d_Reader_read_8 : decode M_Reader_read.2.1 8 = .ok (.iconst 0, 1) := by decide +kernel
theorem d_Reader_read_9 : decode M_Reader_read.2.1 9 = .ok (.putfield 35, 3) := by decide +kernel
theorem d_Reader_read_12 : decode M_Reader_read.2.1 12 = .ok (.aload_n 0, 1) := by decide +kernel
theorem d_Reader_read_13 : decode M_Reader_read.2.1 13 = .ok (.iconst 0, 1) := by decide +kernel
theorem d_Reader_read_14 : decode M_Reader_read.2.1 14 = .ok (.putfield 39, 3) := by decide +kernel
theorem d_Reader_read_17 : decode M_Reader_read.2.1 17 = .ok (.aload_n 0, 1) := by decide +kernel
theorem d_Reader_read_18 : decode M_Reader_read.2.1 18 = .ok (.iconst 0, 1) := by decide +kernel
theorem d_Reader_read_19 : decode M_Reader_read.2.1 19 = .ok (.putfield 43, 3) := by decide +kernel
theorem d_Reader_read_22 : decode M_Reader_read.2.1 22 = .ok (.aload_n 0, 1) := by decide +kernel
theorem d_Reader_read_23 : decode M_Reader_read.2.1 23 = .ok (.iconst 0, 1) := by decide +kernel
theorem d_Reader_read_24 : decode M_Reader_read.2.1 24 = .ok (.putfield 46, 3) := by decide +kernel
theorem d_Reader_read_27 : decode M_Reader_read.2.1 27 = .ok (.aload_n 0, 1) := by decide +kernel
theorem d_Reader_read_28 : decode M_Reader_read.2.1 28 = .ok (.getfield 21, 3) := by decide +kernel
theorem d_Reader_read_31 : decode M_Reader_read.2.1 31 = .ok (.aload_n 1, 1) := by decide +kernel
theorem d_Reader_read_32 : decode M_Reader_read.2.1 32 = .ok (.iload_n 2, 1) := by decide +kernel
theorem d_Reader_read_33 : decode M_Reader_read.2.1 33 = .ok (.invokevirtual 49, 3) := by decide +kernel
theorem d_Reader_read_36 : decode M_Reader_read.2.1 36 = .ok (.iconst 0, 1) := by decide +kernel
theorem d_Reader_read_37 : decode M_Reader_read.2.1 37 = .ok (.istore_n 3, 1) := by decide +kernel
theorem d_Reader_read_38 : decode M_Reader_read.2.1 38 = .ok (.iload_n 3, 1) := by decide +kernel
theorem d_Reader_read_39 : decode M_Reader_read.2.1 39 = .ok (.sipush 900, 3) := by decide +kernel
theorem d_Reader_read_42 : decode M_Reader_read.2.1 42 = .ok (.if_icmp .gt 80, 3) := by decide +kernel
theorem d_Reader_read_45 : decode M_Reader_read.2.1 45 = .ok (.aload_n 0, 1) := by decide +kernel
theorem d_Reader_read_46 : decode M_Reader_read.2.1 46 = .ok (.invokevirtual 53, 3) := by decide +kernel
theorem d_Reader_read_49 : decode M_Reader_read.2.1 49 = .ok (.ifCond .ne 5, 3) := by decide +kernel
theorem d_Reader_read_52 : decode M_Reader_read.2.1 52 = .ok (.iconst 0, 1) := by decide +kernel
theorem d_Reader_read_53 : decode M_Reader_read.2.1 53 = .ok (.ireturn, 1) := by decide +kernel
theorem d_Reader_read_54 : decode M_Reader_read.2.1 54 = .ok (.aload_n 0, 1) := by decide +kernel
theorem d_Reader_read_55 : decode M_Reader_read.2.1 55 = .ok (.getfield 21, 3) := by decide +kernel
theorem d_Reader_read_58 : decode M_Reader_read.2.1 58 = .ok (.getfield 57, 3) := by decide +kernel
theorem d_Reader_read_61 : decode M_Reader_read.2.1 61 = .ok (.ifCond .ne 31, 3) := by decide +kernel
theorem d_Reader_read_64 : decode M_Reader_read.2.1 64 = .ok (.aload_n 0, 1) := by decide +kernel
theorem d_Reader_read_65 : decode M_Reader_read.2.1 65 = .ok (.getfield 12, 3) := by decide +kernel
theorem d_Reader_read_68 : decode M_Reader_read.2.1 68 = .ok (.getfield 60, 3) := by decide +kernel
theorem d_Reader_read_71 : decode M_Reader_read.2.1 71 = .ok (.getfield 64, 3) := by decide +kernel
theorem d_Reader_read_74 : decode M_Reader_read.2.1 74 = .ok (.ifCond .gt 12, 3) := by decide +kernel
theorem d_Reader_read_77 : decode M_Reader_read.2.1 77 = .ok (.aload_n 0, 1) := by decide +kernel
theorem d_Reader_read_78 : decode M_Reader_read.2.1 78 = .ok (.bipush 6, 2) := by decide +kernel
theorem d_Reader_read_80 : decode M_Reader_read.2.1 80 = .ok (.invokevirtual 69, 3) := by decide +kernel
theorem d_Reader_read_83 : decode M_Reader_read.2.1 83 = .ok (.ifCond .eq 7, 3) := by decide +kernel
theorem d_Reader_read_86 : decode M_Reader_read.2.1 86 = .ok (.iconst 1, 1) := by decide +kernel
theorem d_Reader_read_87 : decode M_Reader_read.2.1 87 = .ok (.goto 4, 3) := by decide +kernel
theorem d_Reader_read_90 : decode M_Reader_read.2.1 90 = .ok (.iconst 0, 1) := by decide +kernel
theorem d_Reader_read_91 : decode M_Reader_read.2.1 91 = .ok (.ireturn, 1) := by decide +kernel
theorem d_Reader_read_92 : decode M_Reader_read.2.1 92 = .ok (.aload_n 0, 1) := by decide +kernel
theorem d_Reader_read_93 : decode M_Reader_read.2.1 93 = .ok (.getfield 21, 3) := by decide +kernel
theorem d_Reader_read_96 : decode M_Reader_read.2.1 96 = .ok (.getfield 57, 3) := by decide +kernel
theorem d_Reader_read_99 : decode M_Reader_read.2.1 99 = .ok (.iconst 3, 1) := by decide +kernel
theorem d_Reader_read_100 : decode M_Reader_read.2.1 100 = .ok (.if_icmp .eq 9, 3) := by decide +kernel
theorem d_Reader_read_103 : decode M_Reader_read.2.1 103 = .ok (.aload_n 0, 1) := by decide +kernel
theorem d_Reader_read_104 : decode M_Reader_read.2.1 104 = .ok (.iconst 1, 1) := by decide +kernel
theorem d_Reader_read_105 : decode M_Reader_read.2.1 105 = .ok (.invokevirtual 69, 3) := by decide +kernel
theorem d_Reader_read_108 : decode M_Reader_read.2.1 108 = .ok (.ireturn, 1) := by decide +kernel
theorem d_Reader_read_109 : decode M_Reader_read.2.1 109 = .ok (.aload_n 0, 1) := by decide +kernel
theorem d_Reader_read_110 : decode M_Reader_read.2.1 110 = .ok (.getfield 21, 3) := by decide +kernel
theorem d_Reader_read_113 : decode M_Reader_read.2.1 113 = .ok (.invokevirtual 73, 3) := by decide +kernel
theorem d_Reader_read_116 : decode M_Reader_read.2.1 116 = .ok (.iinc 3 1, 3) := by decide +kernel
theorem d_Reader_read_119 : decode M_Reader_read.2.1 119 = .ok (.goto (-81), 3) := by decide +kernel
theorem d_Reader_read_122 : decode M_Reader_read.2.1 122 = .ok (.aload_n 0, 1) := by decide +kernel
theorem d_Reader_read_123 : decode M_Reader_read.2.1 123 = .ok (.iconst 1, 1) := by decide +kernel
theorem d_Reader_read_124 : decode M_Reader_read.2.1 124 = .ok (.invokevirtual 69, 3) := by decide +kernel
theorem d_Reader_read_127 : decode M_Reader_read.2.1 127 = .ok (.ireturn, 1) := by decide +kernel
theorem d_Reader_fail_0 : decode M_Reader_fail.2.1 0 = .ok (.aload_n 0, 1) := by decide +kernel
theorem d_Reader_fail_1 : decode M_Reader_fail.2.1 1 = .ok (.iload_n 1, 1) := by decide +kernel
theorem d_Reader_fail_2 : decode M_Reader_fail.2.1 2 = .ok (.putfield 46, 3) := by decide +kernel
theorem d_Reader_fail_5 : decode M_Reader_fail.2.1 5 = .ok (.aload_n 0, 1) := by decide +kernel
theorem d_Reader_fail_6 : decode M_Reader_fail.2.1 6 = .ok (.aload_n 0, 1) := by decide +kernel
theorem d_Reader_fail_7 : decode M_Reader_fail.2.1 7 = .ok (.getfield 21, 3) := by decide +kernel
theorem d_Reader_fail_10 : decode M_Reader_fail.2.1 10 = .ok (.getfield 76, 3) := by decide +kernel
theorem d_Reader_fail_13 : decode M_Reader_fail.2.1 13 = .ok (.putfield 79, 3) := by decide +kernel
theorem d_Reader_fail_16 : decode M_Reader_fail.2.1 16 = .ok (.iconst 0, 1) := by decide +kernel
theorem d_Reader_fail_17 : decode M_Reader_fail.2.1 17 = .ok (.ireturn, 1) := by decide +kernel
theorem d_Reader_readLine_0 : decode M_Reader_readLine.2.1 0 = .ok (.aload_n 0, 1) := by decide +kernel
theorem d_Reader_readLine_1 : decode M_Reader_readLine.2.1 1 = .ok (.invokevirtual 80, 3) := by decide +kernel
theorem d_Reader_readLine_4 : decode M_Reader_readLine.2.1 4 = .ok (.istore_n 1, 1) := by decide +kernel
theorem d_Reader_readLine_5 : decode M_Reader_readLine.2.1 5 = .ok (.iload_n 1, 1) := by decide +kernel
theorem d_Reader_readLine_6 : decode M_Reader_readLine.2.1 6 = .ok (.ifCond .ne 9, 3) := by decide +kernel
theorem d_Reader_readLine_9 : decode M_Reader_readLine.2.1 9 = .ok (.aload_n 0, 1) := by decide +kernel
theorem d_Reader_readLine_10 : decode M_Reader_readLine.2.1 10 = .ok (.iconst 1, 1) := by decide +kernel
theorem d_Reader_readLine_11 : decode M_Reader_readLine.2.1 11 = .ok (.invokevirtual 69, 3) := by decide +kernel
theorem d_Reader_readLine_14 : decode M_Reader_readLine.2.1 14 = .ok (.ireturn, 1) := by decide +kernel
theorem d_Reader_readLine_15 : decode M_Reader_readLine.2.1 15 = .ok (.iload_n 1, 1) := by decide +kernel
theorem d_Reader_readLine_16 : decode M_Reader_readLine.2.1 16 = .ok (.iconst 1, 1) := by decide +kernel
theorem d_Reader_readLine_17 : decode M_Reader_readLine.2.1 17 = .ok (.if_icmp .ne 8, 3) := by decide +kernel
theorem d_Reader_readLine_20 : decode M_Reader_readLine.2.1 20 = .ok (.aload_n 0, 1) := by decide +kernel
theorem d_Reader_readLine_21 : decode M_Reader_readLine.2.1 21 = .ok (.invokevirtual 84, 3) := by decide +kernel
theorem d_Reader_readLine_24 : decode M_Reader_readLine.2.1 24 = .ok (.ireturn, 1) := by decide +kernel
theorem d_Reader_readLine_25 : decode M_Reader_readLine.2.1 25 = .ok (.aload_n 0, 1) := by decide +kernel
theorem d_Reader_readLine_26 : decode M_Reader_readLine.2.1 26 = .ok (.getfield 35, 3) := by decide +kernel
theorem d_Reader_readLine_29 : decode M_Reader_readLine.2.1 29 = .ok (.ifCond .ne 10, 3) := by decide +kernel
theorem d_Reader_readLine_32 : decode M_Reader_readLine.2.1 32 = .ok (.aload_n 0, 1) := by decide +kernel
theorem d_Reader_readLine_33 : decode M_Reader_readLine.2.1 33 = .ok (.bipush 6, 2) := by decide +kernel
theorem d_Reader_readLine_35 : decode M_Reader_readLine.2.1 35 = .ok (.invokevirtual 69, 3) := by decide +kernel
theorem d_Reader_readLine_38 : decode M_Reader_readLine.2.1 38 = .ok (.ireturn, 1) := by decide +kernel
theorem d_Reader_readLine_39 : decode M_Reader_readLine.2.1 39 = .ok (.iload_n 1, 1) := by decide +kernel
theorem d_Reader_readLine_40 : decode M_Reader_readLine.2.1 40 = .ok (.tableswitch 61 2 6 #[36, 41, 46, 51, 56], 36) := by decide +kernel
theorem d_Reader_readLine_76 : decode M_Reader_readLine.2.1 76 = .ok (.aload_n 0, 1) := by decide +kernel
theorem d_Reader_readLine_77 : decode M_Reader_readLine.2.1 77 = .ok (.invokevirtual 87, 3) := by decide +kernel
theorem d_Reader_readLine_80 : decode M_Reader_readLine.2.1 80 = .ok (.ireturn, 1) := by decide +kernel
theorem d_Reader_readLine_81 : decode M_Reader_readLine.2.1 81 = .ok (.aload_n 0, 1) := by decide +kernel
theorem d_Reader_readLine_82 : decode M_Reader_readLine.2.1 82 = .ok (.invokevirtual 90, 3) := by decide +kernel
theorem d_Reader_readLine_85 : decode M_Reader_readLine.2.1 85 = .ok (.ireturn, 1) := by decide +kernel
theorem d_Reader_readLine_86 : decode M_Reader_readLine.2.1 86 = .ok (.aload_n 0, 1) := by decide +kernel
theorem d_Reader_readLine_87 : decode M_Reader_readLine.2.1 87 = .ok (.invokevirtual 93, 3) := by decide +kernel
theorem d_Reader_readLine_90 : decode M_Reader_readLine.2.1 90 = .ok (.ireturn, 1) := by decide +kernel
theorem d_Reader_readLine_91 : decode M_Reader_readLine.2.1 91 = .ok (.aload_n 0, 1) := by decide +kernel
theorem d_Reader_readLine_92 : decode M_Reader_readLine.2.1 92 = .ok (.invokevirtual 96, 3) := by decide +kernel
theorem d_Reader_readLine_95 : decode M_Reader_readLine.2.1 95 = .ok (.ireturn, 1) := by decide +kernel
theorem d_Reader_readLine_96 : decode M_Reader_readLine.2.1 96 = .ok (.aload_n 0, 1) := by decide +kernel
theorem d_Reader_readLine_97 : decode M_Reader_readLine.2.1 97 = .ok (.invokevirtual 99, 3) := by decide +kernel
theorem d_Reader_readLine_100 : decode M_Reader_readLine.2.1 100 = .ok (.ireturn, 1) := by decide +kernel
theorem d_Reader_readLine_101 : decode M_Reader_readLine.2.1 101 = .ok (.aload_n 0, 1) := by decide +kernel
theorem d_Reader_readLine_102 : decode M_Reader_readLine.2.1 102 = .ok (.invokevirtual 102, 3) := by decide +kernel
theorem d_Reader_readLine_105 : decode M_Reader_readLine.2.1 105 = .ok (.ireturn, 1) := by decide +kernel
theorem d_Reader_lineOf_0 : decode M_Reader_lineOf.2.1 0 = .ok (.aload_n 0, 1) := by decide +kernel
theorem d_Reader_lineOf_1 : decode M_Reader_lineOf.2.1 1 = .ok (.getfield 21, 3) := by decide +kernel
theorem d_Reader_lineOf_4 : decode M_Reader_lineOf.2.1 4 = .ok (.ldc 105, 2) := by decide +kernel
theorem d_Reader_lineOf_6 : decode M_Reader_lineOf.2.1 6 = .ok (.invokevirtual 107, 3) := by decide +kernel
theorem d_Reader_lineOf_9 : decode M_Reader_lineOf.2.1 9 = .ok (.ifCond .eq 5, 3) := by decide +kernel
theorem d_Reader_lineOf_12 : decode M_Reader_lineOf.2.1 12 = .ok (.iconst 1, 1) := by decide +kernel
theorem d_Reader_lineOf_13 : decode M_Reader_lineOf.2.1 13 = .ok (.ireturn, 1) := by decide +kernel
theorem d_Reader_lineOf_14 : decode M_Reader_lineOf.2.1 14 = .ok (.aload_n 0, 1) := by decide +kernel
theorem d_Reader_lineOf_15 : decode M_Reader_lineOf.2.1 15 = .ok (.getfield 21, 3) := by decide +kernel
theorem d_Reader_lineOf_18 : decode M_Reader_lineOf.2.1 18 = .ok (.ldc 111, 2) := by decide +kernel
theorem d_Reader_lineOf_20 : decode M_Reader_lineOf.2.1 20 = .ok (.invokevirtual 107, 3) := by decide +kernel
theorem d_Reader_lineOf_23 : decode M_Reader_lineOf.2.1 23 = .ok (.ifCond .eq 5, 3) := by decide +kernel
theorem d_Reader_lineOf_26 : decode M_Reader_lineOf.2.1 26 = .ok (.iconst 2, 1) := by decide +kernel
theorem d_Reader_lineOf_27 : decode M_Reader_lineOf.2.1 27 = .ok (.ireturn, 1) := by decide +kernel
theorem d_Reader_lineOf_28 : decode M_Reader_lineOf.2.1 28 = .ok (.aload_n 0, 1) := by decide +kernel
theorem d_Reader_lineOf_29 : decode M_Reader_lineOf.2.1 29 = .ok (.getfield 21, 3) := by decide +kernel
theorem d_Reader_lineOf_32 : decode M_Reader_lineOf.2.1 32 = .ok (.ldc 113, 2) := by decide +kernel
theorem d_Reader_lineOf_34 : decode M_Reader_lineOf.2.1 34 = .ok (.invokevirtual 107, 3) := by decide +kernel
theorem d_Reader_lineOf_37 : decode M_Reader_lineOf.2.1 37 = .ok (.ifCond .eq 5, 3) := by decide +kernel
theorem d_Reader_lineOf_40 : decode M_Reader_lineOf.2.1 40 = .ok (.iconst 3, 1) := by decide +kernel
theorem d_Reader_lineOf_41 : decode M_Reader_lineOf.2.1 41 = .ok (.ireturn, 1) := by decide +kernel
theorem d_Reader_lineOf_42 : decode M_Reader_lineOf.2.1 42 = .ok (.aload_n 0, 1) := by decide +kernel
theorem d_Reader_lineOf_43 : decode M_Reader_lineOf.2.1 43 = .ok (.getfield 21, 3) := by decide +kernel
theorem d_Reader_lineOf_46 : decode M_Reader_lineOf.2.1 46 = .ok (.ldc 115, 2) := by decide +kernel
theorem d_Reader_lineOf_48 : decode M_Reader_lineOf.2.1 48 = .ok (.invokevirtual 107, 3) := by decide +kernel
theorem d_Reader_lineOf_51 : decode M_Reader_lineOf.2.1 51 = .ok (.ifCond .eq 5, 3) := by decide +kernel
theorem d_Reader_lineOf_54 : decode M_Reader_lineOf.2.1 54 = .ok (.iconst 4, 1) := by decide +kernel
theorem d_Reader_lineOf_55 : decode M_Reader_lineOf.2.1 55 = .ok (.ireturn, 1) := by decide +kernel
theorem d_Reader_lineOf_56 : decode M_Reader_lineOf.2.1 56 = .ok (.aload_n 0, 1) := by decide +kernel
theorem d_Reader_lineOf_57 : decode M_Reader_lineOf.2.1 57 = .ok (.getfield 21, 3) := by decide +kernel
theorem d_Reader_lineOf_60 : decode M_Reader_lineOf.2.1 60 = .ok (.ldc 117, 2) := by decide +kernel
theorem d_Reader_lineOf_62 : decode M_Reader_lineOf.2.1 62 = .ok (.invokevirtual 107, 3) := by decide +kernel
theorem d_Reader_lineOf_65 : decode M_Reader_lineOf.2.1 65 = .ok (.ifCond .eq 5, 3) := by decide +kernel
theorem d_Reader_lineOf_68 : decode M_Reader_lineOf.2.1 68 = .ok (.iconst 5, 1) := by decide +kernel
theorem d_Reader_lineOf_69 : decode M_Reader_lineOf.2.1 69 = .ok (.ireturn, 1) := by decide +kernel
theorem d_Reader_lineOf_70 : decode M_Reader_lineOf.2.1 70 = .ok (.aload_n 0, 1) := by decide +kernel
theorem d_Reader_lineOf_71 : decode M_Reader_lineOf.2.1 71 = .ok (.getfield 21, 3) := by decide +kernel
theorem d_Reader_lineOf_74 : decode M_Reader_lineOf.2.1 74 = .ok (.ldc 119, 2) := by decide +kernel
theorem d_Reader_lineOf_76 : decode M_Reader_lineOf.2.1 76 = .ok (.invokevirtual 107, 3) := by decide +kernel
theorem d_Reader_lineOf_79 : decode M_Reader_lineOf.2.1 79 = .ok (.ifCond .eq 6, 3) := by decide +kernel
theorem d_Reader_lineOf_82 : decode M_Reader_lineOf.2.1 82 = .ok (.bipush 6, 2) := by decide +kernel
theorem d_Reader_lineOf_84 : decode M_Reader_lineOf.2.1 84 = .ok (.ireturn, 1) := by decide +kernel
theorem d_Reader_lineOf_85 : decode M_Reader_lineOf.2.1 85 = .ok (.aload_n 0, 1) := by decide +kernel
theorem d_Reader_lineOf_86 : decode M_Reader_lineOf.2.1 86 = .ok (.getfield 21, 3) := by decide +kernel
theorem d_Reader_lineOf_89 : decode M_Reader_lineOf.2.1 89 = .ok (.ldc 121, 2) := by decide +kernel
theorem d_Reader_lineOf_91 : decode M_Reader_lineOf.2.1 91 = .ok (.invokevirtual 107, 3) := by decide +kernel
theorem d_Reader_lineOf_94 : decode M_Reader_lineOf.2.1 94 = .ok (.ifCond .eq 8, 3) := by decide +kernel
theorem d_Reader_lineOf_97 : decode M_Reader_lineOf.2.1 97 = .ok (.bipush 7, 2) := by decide +kernel
theorem d_Reader_lineOf_99 : decode M_Reader_lineOf.2.1 99 = .ok (.goto 4, 3) := by decide +kernel
theorem d_Reader_lineOf_102 : decode M_Reader_lineOf.2.1 102 = .ok (.iconst 0, 1) := by decide +kernel
theorem d_Reader_lineOf_103 : decode M_Reader_lineOf.2.1 103 = .ok (.ireturn, 1) := by decide +kernel
theorem d_Reader_readShire_0 : decode M_Reader_readShire.2.1 0 = .ok (.aload_n 0, 1) := by decide +kernel
theorem d_Reader_readShire_1 : decode M_Reader_readShire.2.1 1 = .ok (.getfield 35, 3) := by decide +kernel
theorem d_Reader_readShire_4 : decode M_Reader_readShire.2.1 4 = .ok (.ifCond .eq 9, 3) := by decide +kernel
theorem d_Reader_readShire_7 : decode M_Reader_readShire.2.1 7 = .ok (.aload_n 0, 1) := by decide +kernel
theorem d_Reader_readShire_8 : decode M_Reader_readShire.2.1 8 = .ok (.iconst 3, 1) := by decide +kernel
theorem d_Reader_readShire_9 : decode M_Reader_readShire.2.1 9 = .ok (.invokevirtual 69, 3) := by decide +kernel
theorem d_Reader_readShire_12 : decode M_Reader_readShire.2.1 12 = .ok (.ireturn, 1) := by decide +kernel
theorem d_Reader_readShire_13 : decode M_Reader_readShire.2.1 13 = .ok (.aload_n 0, 1) := by decide +kernel
theorem d_Reader_readShire_14 : decode M_Reader_readShire.2.1 14 = .ok (.iconst 1, 1) := by decide +kernel
theorem d_Reader_readShire_15 : decode M_Reader_readShire.2.1 15 = .ok (.putfield 35, 3) := by decide +kernel
theorem d_Reader_readShire_18 : decode M_Reader_readShire.2.1 18 = .ok (.aload_n 0, 1) := by decide +kernel
theorem d_Reader_readShire_19 : decode M_Reader_readShire.2.1 19 = .ok (.getfield 21, 3) := by decide +kernel
theorem d_Reader_readShire_22 : decode M_Reader_readShire.2.1 22 = .ok (.invokevirtual 73, 3) := by decide +kernel
theorem d_Reader_readShire_25 : decode M_Reader_readShire.2.1 25 = .ok (.aload_n 0, 1) := by decide +kernel
theorem d_Reader_readShire_26 : decode M_Reader_readShire.2.1 26 = .ok (.ldc 123, 2) := by decide +kernel
theorem d_Reader_readShire_28 : decode M_Reader_readShire.2.1 28 = .ok (.invokevirtual 125, 3) := by decide +kernel
theorem d_Reader_readShire_31 : decode M_Reader_readShire.2.1 31 = .ok (.ifCond .eq 12, 3) := by decide +kernel
theorem d_Reader_readShire_34 : decode M_Reader_readShire.2.1 34 = .ok (.aload_n 0, 1) := by decide +kernel
theorem d_Reader_readShire_35 : decode M_Reader_readShire.2.1 35 = .ok (.bipush 100, 2) := by decide +kernel
theorem d_Reader_readShire_37 : decode M_Reader_readShire.2.1 37 = .ok (.invokevirtual 128, 3) := by decide +kernel
theorem d_Reader_readShire_40 : decode M_Reader_readShire.2.1 40 = .ok (.ifCond .ne 5, 3) := by decide +kernel
theorem d_Reader_readShire_43 : decode M_Reader_readShire.2.1 43 = .ok (.iconst 0, 1) := by decide +kernel
theorem d_Reader_readShire_44 : decode M_Reader_readShire.2.1 44 = .ok (.ireturn, 1) := by decide +kernel
theorem d_Reader_readShire_45 : decode M_Reader_readShire.2.1 45 = .ok (.aload_n 0, 1) := by decide +kernel
theorem d_Reader_readShire_46 : decode M_Reader_readShire.2.1 46 = .ok (.getfield 12, 3) := by decide +kernel
theorem d_Reader_readShire_49 : decode M_Reader_readShire.2.1 49 = .ok (.aload_n 0, 1) := by decide +kernel
theorem d_Reader_readShire_50 : decode M_Reader_readShire.2.1 50 = .ok (.getfield 131, 3) := by decide +kernel
theorem d_Reader_readShire_53 : decode M_Reader_readShire.2.1 53 = .ok (.putfield 134, 3) := by decide +kernel
theorem d_Reader_readShire_56 : decode M_Reader_readShire.2.1 56 = .ok (.aload_n 0, 1) := by decide +kernel
theorem d_Reader_readShire_57 : decode M_Reader_readShire.2.1 57 = .ok (.ldc 136, 2) := by decide +kernel
theorem d_Reader_readShire_59 : decode M_Reader_readShire.2.1 59 = .ok (.invokevirtual 125, 3) := by decide +kernel
theorem d_Reader_readShire_62 : decode M_Reader_readShire.2.1 62 = .ok (.ifCond .eq 12, 3) := by decide +kernel
theorem d_Reader_readShire_65 : decode M_Reader_readShire.2.1 65 = .ok (.aload_n 0, 1) := by decide +kernel
theorem d_Reader_readShire_66 : decode M_Reader_readShire.2.1 66 = .ok (.bipush 9, 2) := by decide +kernel
theorem d_Reader_readShire_68 : decode M_Reader_readShire.2.1 68 = .ok (.invokevirtual 128, 3) := by decide +kernel
theorem d_Reader_readShire_71 : decode M_Reader_readShire.2.1 71 = .ok (.ifCond .ne 5, 3) := by decide +kernel
theorem d_Reader_readShire_74 : decode M_Reader_readShire.2.1 74 = .ok (.iconst 0, 1) := by decide +kernel
theorem d_Reader_readShire_75 : decode M_Reader_readShire.2.1 75 = .ok (.ireturn, 1) := by decide +kernel
theorem d_Reader_readShire_76 : decode M_Reader_readShire.2.1 76 = .ok (.aload_n 0, 1) := by decide +kernel
theorem d_Reader_readShire_77 : decode M_Reader_readShire.2.1 77 = .ok (.getfield 12, 3) := by decide +kernel
theorem d_Reader_readShire_80 : decode M_Reader_readShire.2.1 80 = .ok (.aload_n 0, 1) := by decide +kernel
theorem d_Reader_readShire_81 : decode M_Reader_readShire.2.1 81 = .ok (.getfield 131, 3) := by decide +kernel
theorem d_Reader_readShire_84 : decode M_Reader_readShire.2.1 84 = .ok (.putfield 138, 3) := by decide +kernel
theorem d_Reader_readShire_87 : decode M_Reader_readShire.2.1 87 = .ok (.iconst 1, 1) := by decide +kernel
theorem d_Reader_readShire_88 : decode M_Reader_readShire.2.1 88 = .ok (.ireturn, 1) := by decide +kernel
theorem d_Reader_readFolly_0 : decode M_Reader_readFolly.2.1 0 = .ok (.aload_n 0, 1) := by decide +kernel
theorem d_Reader_readFolly_1 : decode M_Reader_readFolly.2.1 1 = .ok (.getfield 12, 3) := by decide +kernel
theorem d_Reader_readFolly_4 : decode M_Reader_readFolly.2.1 4 = .ok (.getfield 60, 3) := by decide +kernel
theorem d_Reader_readFolly_7 : decode M_Reader_readFolly.2.1 7 = .ok (.getfield 64, 3) := by decide +kernel
theorem d_Reader_readFolly_10 : decode M_Reader_readFolly.2.1 10 = .ok (.istore_n 1, 1) := by decide +kernel
theorem d_Reader_readFolly_11 : decode M_Reader_readFolly.2.1 11 = .ok (.iload_n 1, 1) := by decide +kernel
theorem d_Reader_readFolly_12 : decode M_Reader_readFolly.2.1 12 = .ok (.bipush 6, 2) := by decide +kernel
theorem d_Reader_readFolly_14 : decode M_Reader_readFolly.2.1 14 = .ok (.if_icmp .lt 9, 3) := by decide +kernel
theorem d_Reader_readFolly_17 : decode M_Reader_readFolly.2.1 17 = .ok (.aload_n 0, 1) := by decide +kernel
theorem d_Reader_readFolly_18 : decode M_Reader_readFolly.2.1 18 = .ok (.iconst 5, 1) := by decide +kernel
theorem d_Reader_readFolly_19 : decode M_Reader_readFolly.2.1 19 = .ok (.invokevirtual 69, 3) := by decide +kernel
theorem d_Reader_readFolly_22 : decode M_Reader_readFolly.2.1 22 = .ok (.ireturn, 1) := by decide +kernel
theorem d_Reader_readFolly_23 : decode M_Reader_readFolly.2.1 23 = .ok (.aload_n 0, 1) := by decide +kernel
theorem d_Reader_readFolly_24 : decode M_Reader_readFolly.2.1 24 = .ok (.getfield 21, 3) := by decide +kernel
theorem d_Reader_readFolly_27 : decode M_Reader_readFolly.2.1 27 = .ok (.invokevirtual 73, 3) := by decide +kernel
theorem d_Reader_readFolly_30 : decode M_Reader_readFolly.2.1 30 = .ok (.aload_n 0, 1) := by decide +kernel
theorem d_Reader_readFolly_31 : decode M_Reader_readFolly.2.1 31 = .ok (.invokevirtual 140, 3) := by decide +kernel
theorem d_Reader_readFolly_34 : decode M_Reader_readFolly.2.1 34 = .ok (.ifCond .eq 10, 3) := by decide +kernel
theorem d_Reader_readFolly_37 : decode M_Reader_readFolly.2.1 37 = .ok (.aload_n 0, 1) := by decide +kernel
theorem d_Reader_readFolly_38 : decode M_Reader_readFolly.2.1 38 = .ok (.invokevirtual 143, 3) := by decide +kernel
theorem d_Reader_readFolly_41 : decode M_Reader_readFolly.2.1 41 = .ok (.ifCond .ne 5, 3) := by decide +kernel
theorem d_Reader_readFolly_44 : decode M_Reader_readFolly.2.1 44 = .ok (.iconst 0, 1) := by decide +kernel
theorem d_Reader_readFolly_45 : decode M_Reader_readFolly.2.1 45 = .ok (.ireturn, 1) := by decide +kernel
theorem d_Reader_readFolly_46 : decode M_Reader_readFolly.2.1 46 = .ok (.aload_n 0, 1) := by decide +kernel
theorem d_Reader_readFolly_47 : decode M_Reader_readFolly.2.1 47 = .ok (.getfield 131, 3) := by decide +kernel
theorem d_Reader_readFolly_50 : decode M_Reader_readFolly.2.1 50 = .ok (.istore_n 2, 1) := by decide +kernel
theorem d_Reader_readFolly_51 : decode M_Reader_readFolly.2.1 51 = .ok (.aload_n 0, 1) := by decide +kernel
theorem d_Reader_readFolly_52 : decode M_Reader_readFolly.2.1 52 = .ok (.ldc 146, 2) := by decide +kernel
theorem d_Reader_readFolly_54 : decode M_Reader_readFolly.2.1 54 = .ok (.invokevirtual 125, 3) := by decide +kernel
theorem d_Reader_readFolly_57 : decode M_Reader_readFolly.2.1 57 = .ok (.ifCond .eq 12, 3) := by decide +kernel
theorem d_Reader_readFolly_60 : decode M_Reader_readFolly.2.1 60 = .ok (.aload_n 0, 1) := by decide +kernel
theorem d_Reader_readFolly_61 : decode M_Reader_readFolly.2.1 61 = .ok (.bipush 99, 2) := by decide +kernel
theorem d_Reader_readFolly_63 : decode M_Reader_readFolly.2.1 63 = .ok (.invokevirtual 128, 3) := by decide +kernel
theorem d_Reader_readFolly_66 : decode M_Reader_readFolly.2.1 66 = .ok (.ifCond .ne 5, 3) := by decide +kernel
theorem d_Reader_readFolly_69 : decode M_Reader_readFolly.2.1 69 = .ok (.iconst 0, 1) := by decide +kernel
theorem d_Reader_readFolly_70 : decode M_Reader_readFolly.2.1 70 = .ok (.ireturn, 1) := by decide +kernel
theorem d_Reader_readFolly_71 : decode M_Reader_readFolly.2.1 71 = .ok (.aload_n 0, 1) := by decide +kernel
theorem d_Reader_readFolly_72 : decode M_Reader_readFolly.2.1 72 = .ok (.getfield 25, 3) := by decide +kernel
theorem d_Reader_readFolly_75 : decode M_Reader_readFolly.2.1 75 = .ok (.iload_n 1, 1) := by decide +kernel
theorem d_Reader_readFolly_76 : decode M_Reader_readFolly.2.1 76 = .ok (.aload_n 0, 1) := by decide +kernel
theorem d_Reader_readFolly_77 : decode M_Reader_readFolly.2.1 77 = .ok (.getfield 148, 3) := by decide +kernel
theorem d_Reader_readFolly_80 : decode M_Reader_readFolly.2.1 80 = .ok (.lastore, 1) := by decide +kernel
theorem d_Reader_readFolly_81 : decode M_Reader_readFolly.2.1 81 = .ok (.aload_n 0, 1) := by decide +kernel
theorem d_Reader_readFolly_82 : decode M_Reader_readFolly.2.1 82 = .ok (.getfield 12, 3) := by decide +kernel
theorem d_Reader_readFolly_85 : decode M_Reader_readFolly.2.1 85 = .ok (.getfield 60, 3) := by decide +kernel
theorem d_Reader_readFolly_88 : decode M_Reader_readFolly.2.1 88 = .ok (.iload_n 2, 1) := by decide +kernel
theorem d_Reader_readFolly_89 : decode M_Reader_readFolly.2.1 89 = .ok (.aload_n 0, 1) := by decide +kernel
theorem d_Reader_readFolly_90 : decode M_Reader_readFolly.2.1 90 = .ok (.getfield 131, 3) := by decide +kernel
theorem d_Reader_readFolly_93 : decode M_Reader_readFolly.2.1 93 = .ok (.invokevirtual 152, 3) := by decide +kernel
theorem d_Reader_readFolly_96 : decode M_Reader_readFolly.2.1 96 = .ok (.iconst 1, 1) := by decide +kernel
theorem d_Reader_readFolly_97 : decode M_Reader_readFolly.2.1 97 = .ok (.ireturn, 1) := by decide +kernel
theorem d_Reader_readSends_0 : decode M_Reader_readSends.2.1 0 = .ok (.aload_n 0, 1) := by decide +kernel
theorem d_Reader_readSends_1 : decode M_Reader_readSends.2.1 1 = .ok (.getfield 21, 3) := by decide +kernel
theorem d_Reader_readSends_4 : decode M_Reader_readSends.2.1 4 = .ok (.invokevirtual 73, 3) := by decide +kernel
theorem d_Reader_readSends_7 : decode M_Reader_readSends.2.1 7 = .ok (.aload_n 0, 1) := by decide +kernel
theorem d_Reader_readSends_8 : decode M_Reader_readSends.2.1 8 = .ok (.aload_n 0, 1) := by decide +kernel
theorem d_Reader_readSends_9 : decode M_Reader_readSends.2.1 9 = .ok (.getfield 39, 3) := by decide +kernel
theorem d_Reader_readSends_12 : decode M_Reader_readSends.2.1 12 = .ok (.invokevirtual 156, 3) := by decide +kernel
theorem d_Reader_readSends_15 : decode M_Reader_readSends.2.1 15 = .ok (.ifCond .ne 5, 3) := by decide +kernel
theorem d_Reader_readSends_18 : decode M_Reader_readSends.2.1 18 = .ok (.iconst 0, 1) := by decide +kernel
theorem d_Reader_readSends_19 : decode M_Reader_readSends.2.1 19 = .ok (.ireturn, 1) := by decide +kernel
theorem d_Reader_readSends_20 : decode M_Reader_readSends.2.1 20 = .ok (.aload_n 0, 1) := by decide +kernel
theorem d_Reader_readSends_21 : decode M_Reader_readSends.2.1 21 = .ok (.getfield 131, 3) := by decide +kernel
theorem d_Reader_readSends_24 : decode M_Reader_readSends.2.1 24 = .ok (.istore_n 1, 1) := by decide +kernel
theorem d_Reader_readSends_25 : decode M_Reader_readSends.2.1 25 = .ok (.aload_n 0, 1) := by decide +kernel
theorem d_Reader_readSends_26 : decode M_Reader_readSends.2.1 26 = .ok (.iconst 1, 1) := by decide +kernel
theorem d_Reader_readSends_27 : decode M_Reader_readSends.2.1 27 = .ok (.iload_n 1, 1) := by decide +kernel
theorem d_Reader_readSends_28 : decode M_Reader_readSends.2.1 28 = .ok (.ishl, 1) := by decide +kernel
theorem d_Reader_readSends_29 : decode M_Reader_readSends.2.1 29 = .ok (.invokevirtual 156, 3) := by decide +kernel
theorem d_Reader_readSends_32 : decode M_Reader_readSends.2.1 32 = .ok (.ifCond .ne 5, 3) := by decide +kernel
theorem d_Reader_readSends_35 : decode M_Reader_readSends.2.1 35 = .ok (.iconst 0, 1) := by decide +kernel
theorem d_Reader_readSends_36 : decode M_Reader_readSends.2.1 36 = .ok (.ireturn, 1) := by decide +kernel
theorem d_Reader_readSends_37 : decode M_Reader_readSends.2.1 37 = .ok (.aload_n 0, 1) := by decide +kernel
theorem d_Reader_readSends_38 : decode M_Reader_readSends.2.1 38 = .ok (.dup, 1) := by decide +kernel
theorem d_Reader_readSends_39 : decode M_Reader_readSends.2.1 39 = .ok (.getfield 39, 3) := by decide +kernel
theorem d_Reader_readSends_42 : decode M_Reader_readSends.2.1 42 = .ok (.iconst 1, 1) := by decide +kernel
theorem d_Reader_readSends_43 : decode M_Reader_readSends.2.1 43 = .ok (.iload_n 1, 1) := by decide +kernel
theorem d_Reader_readSends_44 : decode M_Reader_readSends.2.1 44 = .ok (.ishl, 1) := by decide +kernel
theorem d_Reader_readSends_45 : decode M_Reader_readSends.2.1 45 = .ok (.ior, 1) := by decide +kernel
theorem d_Reader_readSends_46 : decode M_Reader_readSends.2.1 46 = .ok (.putfield 39, 3) := by decide +kernel
theorem d_Reader_readSends_49 : decode M_Reader_readSends.2.1 49 = .ok (.aload_n 0, 1) := by decide +kernel
theorem d_Reader_readSends_50 : decode M_Reader_readSends.2.1 50 = .ok (.getfield 12, 3) := by decide +kernel
theorem d_Reader_readSends_53 : decode M_Reader_readSends.2.1 53 = .ok (.getfield 60, 3) := by decide +kernel
theorem d_Reader_readSends_56 : decode M_Reader_readSends.2.1 56 = .ok (.iload_n 1, 1) := by decide +kernel
theorem d_Reader_readSends_57 : decode M_Reader_readSends.2.1 57 = .ok (.aload_n 0, 1) := by decide +kernel
theorem d_Reader_readSends_58 : decode M_Reader_readSends.2.1 58 = .ok (.getfield 131, 3) := by decide +kernel
theorem d_Reader_readSends_61 : decode M_Reader_readSends.2.1 61 = .ok (.invokevirtual 159, 3) := by decide +kernel
theorem d_Reader_readSends_64 : decode M_Reader_readSends.2.1 64 = .ok (.iconst 1, 1) := by decide +kernel
theorem d_Reader_readSends_65 : decode M_Reader_readSends.2.1 65 = .ok (.ireturn, 1) := by decide +kernel
theorem d_Reader_readHermit_0 : decode M_Reader_readHermit.2.1 0 = .ok (.aload_n 0, 1) := by decide +kernel
theorem d_Reader_readHermit_1 : decode M_Reader_readHermit.2.1 1 = .ok (.getfield 21, 3) := by decide +kernel
theorem d_Reader_readHermit_4 : decode M_Reader_readHermit.2.1 4 = .ok (.invokevirtual 73, 3) := by decide +kernel
theorem d_Reader_readHermit_7 : decode M_Reader_readHermit.2.1 7 = .ok (.aload_n 0, 1) := by decide +kernel
theorem d_Reader_readHermit_8 : decode M_Reader_readHermit.2.1 8 = .ok (.aload_n 0, 1) := by decide +kernel
theorem d_Reader_readHermit_9 : decode M_Reader_readHermit.2.1 9 = .ok (.getfield 12, 3) := by decide +kernel
theorem d_Reader_readHermit_12 : decode M_Reader_readHermit.2.1 12 = .ok (.getfield 60, 3) := by decide +kernel
theorem d_Reader_readHermit_15 : decode M_Reader_readHermit.2.1 15 = .ok (.getfield 162, 3) := by decide +kernel
theorem d_Reader_readHermit_18 : decode M_Reader_readHermit.2.1 18 = .ok (.invokevirtual 156, 3) := by decide +kernel
theorem d_Reader_readHermit_21 : decode M_Reader_readHermit.2.1 21 = .ok (.ifCond .ne 5, 3) := by decide +kernel
theorem d_Reader_readHermit_24 : decode M_Reader_readHermit.2.1 24 = .ok (.iconst 0, 1) := by decide +kernel
theorem d_Reader_readHermit_25 : decode M_Reader_readHermit.2.1 25 = .ok (.ireturn, 1) := by decide +kernel
theorem d_Reader_readHermit_26 : decode M_Reader_readHermit.2.1 26 = .ok (.aload_n 0, 1) := by decide +kernel
theorem d_Reader_readHermit_27 : decode M_Reader_readHermit.2.1 27 = .ok (.getfield 12, 3) := by decide +kernel
theorem d_Reader_readHermit_30 : decode M_Reader_readHermit.2.1 30 = .ok (.getfield 60, 3) := by decide +kernel
theorem d_Reader_readHermit_33 : decode M_Reader_readHermit.2.1 33 = .ok (.dup, 1) := by decide +kernel
theorem d_Reader_readHermit_34 : decode M_Reader_readHermit.2.1 34 = .ok (.getfield 162, 3) := by decide +kernel
theorem d_Reader_readHermit_37 : decode M_Reader_readHermit.2.1 37 = .ok (.iconst 1, 1) := by decide +kernel
theorem d_Reader_readHermit_38 : decode M_Reader_readHermit.2.1 38 = .ok (.aload_n 0, 1) := by decide +kernel
theorem d_Reader_readHermit_39 : decode M_Reader_readHermit.2.1 39 = .ok (.getfield 131, 3) := by decide +kernel
theorem d_Reader_readHermit_42 : decode M_Reader_readHermit.2.1 42 = .ok (.ishl, 1) := by decide +kernel
theorem d_Reader_readHermit_43 : decode M_Reader_readHermit.2.1 43 = .ok (.ior, 1) := by decide +kernel
theorem d_Reader_readHermit_44 : decode M_Reader_readHermit.2.1 44 = .ok (.putfield 162, 3) := by decide +kernel
theorem d_Reader_readHermit_47 : decode M_Reader_readHermit.2.1 47 = .ok (.iconst 1, 1) := by decide +kernel
theorem d_Reader_readHermit_48 : decode M_Reader_readHermit.2.1 48 = .ok (.ireturn, 1) := by decide +kernel
theorem d_Reader_readEstate_0 : decode M_Reader_readEstate.2.1 0 = .ok (.aload_n 0, 1) := by decide +kernel
theorem d_Reader_readEstate_1 : decode M_Reader_readEstate.2.1 1 = .ok (.getfield 12, 3) := by decide +kernel
theorem d_Reader_readEstate_4 : decode M_Reader_readEstate.2.1 4 = .ok (.getfield 165, 3) := by decide +kernel
theorem d_Reader_readEstate_7 : decode M_Reader_readEstate.2.1 7 = .ok (.istore_n 1, 1) := by decide +kernel
theorem d_Reader_readEstate_8 : decode M_Reader_readEstate.2.1 8 = .ok (.iload_n 1, 1) := by decide +kernel
theorem d_Reader_readEstate_9 : decode M_Reader_readEstate.2.1 9 = .ok (.iconst 5, 1) := by decide +kernel
theorem d_Reader_readEstate_10 : decode M_Reader_readEstate.2.1 10 = .ok (.if_icmp .lt 9, 3) := by decide +kernel
theorem d_Reader_readEstate_13 : decode M_Reader_readEstate.2.1 13 = .ok (.aload_n 0, 1) := by decide +kernel
theorem d_Reader_readEstate_14 : decode M_Reader_readEstate.2.1 14 = .ok (.iconst 5, 1) := by decide +kernel
theorem d_Reader_readEstate_15 : decode M_Reader_readEstate.2.1 15 = .ok (.invokevirtual 69, 3) := by decide +kernel
theorem d_Reader_readEstate_18 : decode M_Reader_readEstate.2.1 18 = .ok (.ireturn, 1) := by decide +kernel
theorem d_Reader_readEstate_19 : decode M_Reader_readEstate.2.1 19 = .ok (.aload_n 0, 1) := by decide +kernel
theorem d_Reader_readEstate_20 : decode M_Reader_readEstate.2.1 20 = .ok (.getfield 21, 3) := by decide +kernel
theorem d_Reader_readEstate_23 : decode M_Reader_readEstate.2.1 23 = .ok (.invokevirtual 73, 3) := by decide +kernel
theorem d_Reader_readEstate_26 : decode M_Reader_readEstate.2.1 26 = .ok (.aload_n 0, 1) := by decide +kernel
theorem d_Reader_readEstate_27 : decode M_Reader_readEstate.2.1 27 = .ok (.invokevirtual 140, 3) := by decide +kernel
theorem d_Reader_readEstate_30 : decode M_Reader_readEstate.2.1 30 = .ok (.ifCond .eq 11, 3) := by decide +kernel
theorem d_Reader_readEstate_33 : decode M_Reader_readEstate.2.1 33 = .ok (.aload_n 0, 1) := by decide +kernel
theorem d_Reader_readEstate_34 : decode M_Reader_readEstate.2.1 34 = .ok (.iconst 0, 1) := by decide +kernel
theorem d_Reader_readEstate_35 : decode M_Reader_readEstate.2.1 35 = .ok (.invokevirtual 156, 3) := by decide +kernel
theorem d_Reader_readEstate_38 : decode M_Reader_readEstate.2.1 38 = .ok (.ifCond .ne 5, 3) := by decide +kernel
theorem d_Reader_readEstate_41 : decode M_Reader_readEstate.2.1 41 = .ok (.iconst 0, 1) := by decide +kernel
theorem d_Reader_readEstate_42 : decode M_Reader_readEstate.2.1 42 = .ok (.ireturn, 1) := by decide +kernel
theorem d_Reader_readEstate_43 : decode M_Reader_readEstate.2.1 43 = .ok (.aload_n 0, 1) := by decide +kernel
theorem d_Reader_readEstate_44 : decode M_Reader_readEstate.2.1 44 = .ok (.getfield 131, 3) := by decide +kernel
theorem d_Reader_readEstate_47 : decode M_Reader_readEstate.2.1 47 = .ok (.istore_n 2, 1) := by decide +kernel
theorem d_Reader_readEstate_48 : decode M_Reader_readEstate.2.1 48 = .ok (.aload_n 0, 1) := by decide +kernel
theorem d_Reader_readEstate_49 : decode M_Reader_readEstate.2.1 49 = .ok (.ldc 168, 2) := by decide +kernel
theorem d_Reader_readEstate_51 : decode M_Reader_readEstate.2.1 51 = .ok (.invokevirtual 125, 3) := by decide +kernel
theorem d_Reader_readEstate_54 : decode M_Reader_readEstate.2.1 54 = .ok (.ifCond .eq 12, 3) := by decide +kernel
theorem d_Reader_readEstate_57 : decode M_Reader_readEstate.2.1 57 = .ok (.aload_n 0, 1) := by decide +kernel
theorem d_Reader_readEstate_58 : decode M_Reader_readEstate.2.1 58 = .ok (.bipush 99, 2) := by decide +kernel
theorem d_Reader_readEstate_60 : decode M_Reader_readEstate.2.1 60 = .ok (.invokevirtual 128, 3) := by decide +kernel
theorem d_Reader_readEstate_63 : decode M_Reader_readEstate.2.1 63 = .ok (.ifCond .ne 5, 3) := by decide +kernel
theorem d_Reader_readEstate_66 : decode M_Reader_readEstate.2.1 66 = .ok (.iconst 0, 1) := by decide +kernel
theorem d_Reader_readEstate_67 : decode M_Reader_readEstate.2.1 67 = .ok (.ireturn, 1) := by decide +kernel
theorem d_Reader_readEstate_68 : decode M_Reader_readEstate.2.1 68 = .ok (.aload_n 0, 1) := by decide +kernel
theorem d_Reader_readEstate_69 : decode M_Reader_readEstate.2.1 69 = .ok (.getfield 29, 3) := by decide +kernel
theorem d_Reader_readEstate_72 : decode M_Reader_readEstate.2.1 72 = .ok (.iload_n 1, 1) := by decide +kernel
theorem d_Reader_readEstate_73 : decode M_Reader_readEstate.2.1 73 = .ok (.aload_n 0, 1) := by decide +kernel
theorem d_Reader_readEstate_74 : decode M_Reader_readEstate.2.1 74 = .ok (.getfield 148, 3) := by decide +kernel
theorem d_Reader_readEstate_77 : decode M_Reader_readEstate.2.1 77 = .ok (.lastore, 1) := by decide +kernel
theorem d_Reader_readEstate_78 : decode M_Reader_readEstate.2.1 78 = .ok (.aload_n 0, 1) := by decide +kernel
theorem d_Reader_readEstate_79 : decode M_Reader_readEstate.2.1 79 = .ok (.getfield 12, 3) := by decide +kernel
theorem d_Reader_readEstate_82 : decode M_Reader_readEstate.2.1 82 = .ok (.iload_n 2, 1) := by decide +kernel
theorem d_Reader_readEstate_83 : decode M_Reader_readEstate.2.1 83 = .ok (.aload_n 0, 1) := by decide +kernel
theorem d_Reader_readEstate_84 : decode M_Reader_readEstate.2.1 84 = .ok (.getfield 131, 3) := by decide +kernel
theorem d_Reader_readEstate_87 : decode M_Reader_readEstate.2.1 87 = .ok (.invokevirtual 170, 3) := by decide +kernel
theorem d_Reader_readEstate_90 : decode M_Reader_readEstate.2.1 90 = .ok (.iconst 1, 1) := by decide +kernel
theorem d_Reader_readEstate_91 : decode M_Reader_readEstate.2.1 91 = .ok (.ireturn, 1) := by decide +kernel
theorem d_Reader_readVeiled_0 : decode M_Reader_readVeiled.2.1 0 = .ok (.aload_n 0, 1) := by decide +kernel
theorem d_Reader_readVeiled_1 : decode M_Reader_readVeiled.2.1 1 = .ok (.getfield 12, 3) := by decide +kernel
theorem d_Reader_readVeiled_4 : decode M_Reader_readVeiled.2.1 4 = .ok (.getfield 173, 3) := by decide +kernel
theorem d_Reader_readVeiled_7 : decode M_Reader_readVeiled.2.1 7 = .ok (.iconst 3, 1) := by decide +kernel
theorem d_Reader_readVeiled_8 : decode M_Reader_readVeiled.2.1 8 = .ok (.if_icmp .lt 9, 3) := by decide +kernel
theorem d_Reader_readVeiled_11 : decode M_Reader_readVeiled.2.1 11 = .ok (.aload_n 0, 1) := by decide +kernel
theorem d_Reader_readVeiled_12 : decode M_Reader_readVeiled.2.1 12 = .ok (.iconst 5, 1) := by decide +kernel
theorem d_Reader_readVeiled_13 : decode M_Reader_readVeiled.2.1 13 = .ok (.invokevirtual 69, 3) := by decide +kernel
theorem d_Reader_readVeiled_16 : decode M_Reader_readVeiled.2.1 16 = .ok (.ireturn, 1) := by decide +kernel
theorem d_Reader_readVeiled_17 : decode M_Reader_readVeiled.2.1 17 = .ok (.aload_n 0, 1) := by decide +kernel
theorem d_Reader_readVeiled_18 : decode M_Reader_readVeiled.2.1 18 = .ok (.getfield 21, 3) := by decide +kernel
theorem d_Reader_readVeiled_21 : decode M_Reader_readVeiled.2.1 21 = .ok (.invokevirtual 73, 3) := by decide +kernel
theorem d_Reader_readVeiled_24 : decode M_Reader_readVeiled.2.1 24 = .ok (.aload_n 0, 1) := by decide +kernel
theorem d_Reader_readVeiled_25 : decode M_Reader_readVeiled.2.1 25 = .ok (.aload_n 0, 1) := by decide +kernel
theorem d_Reader_readVeiled_26 : decode M_Reader_readVeiled.2.1 26 = .ok (.getfield 43, 3) := by decide +kernel
theorem d_Reader_readVeiled_29 : decode M_Reader_readVeiled.2.1 29 = .ok (.invokevirtual 156, 3) := by decide +kernel
theorem d_Reader_readVeiled_32 : decode M_Reader_readVeiled.2.1 32 = .ok (.ifCond .ne 5, 3) := by decide +kernel
theorem d_Reader_readVeiled_35 : decode M_Reader_readVeiled.2.1 35 = .ok (.iconst 0, 1) := by decide +kernel
theorem d_Reader_readVeiled_36 : decode M_Reader_readVeiled.2.1 36 = .ok (.ireturn, 1) := by decide +kernel
theorem d_Reader_readVeiled_37 : decode M_Reader_readVeiled.2.1 37 = .ok (.aload_n 0, 1) := by decide +kernel
theorem d_Reader_readVeiled_38 : decode M_Reader_readVeiled.2.1 38 = .ok (.dup, 1) := by decide +kernel
theorem d_Reader_readVeiled_39 : decode M_Reader_readVeiled.2.1 39 = .ok (.getfield 43, 3) := by decide +kernel
theorem d_Reader_readVeiled_42 : decode M_Reader_readVeiled.2.1 42 = .ok (.iconst 1, 1) := by decide +kernel
theorem d_Reader_readVeiled_43 : decode M_Reader_readVeiled.2.1 43 = .ok (.aload_n 0, 1) := by decide +kernel
theorem d_Reader_readVeiled_44 : decode M_Reader_readVeiled.2.1 44 = .ok (.getfield 131, 3) := by decide +kernel
theorem d_Reader_readVeiled_47 : decode M_Reader_readVeiled.2.1 47 = .ok (.ishl, 1) := by decide +kernel
theorem d_Reader_readVeiled_48 : decode M_Reader_readVeiled.2.1 48 = .ok (.ior, 1) := by decide +kernel
theorem d_Reader_readVeiled_49 : decode M_Reader_readVeiled.2.1 49 = .ok (.putfield 43, 3) := by decide +kernel
theorem d_Reader_readVeiled_52 : decode M_Reader_readVeiled.2.1 52 = .ok (.aload_n 0, 1) := by decide +kernel
theorem d_Reader_readVeiled_53 : decode M_Reader_readVeiled.2.1 53 = .ok (.getfield 12, 3) := by decide +kernel
theorem d_Reader_readVeiled_56 : decode M_Reader_readVeiled.2.1 56 = .ok (.aload_n 0, 1) := by decide +kernel
theorem d_Reader_readVeiled_57 : decode M_Reader_readVeiled.2.1 57 = .ok (.getfield 131, 3) := by decide +kernel
theorem d_Reader_readVeiled_60 : decode M_Reader_readVeiled.2.1 60 = .ok (.invokevirtual 175, 3) := by decide +kernel
theorem d_Reader_readVeiled_63 : decode M_Reader_readVeiled.2.1 63 = .ok (.iconst 1, 1) := by decide +kernel
theorem d_Reader_readVeiled_64 : decode M_Reader_readVeiled.2.1 64 = .ok (.ireturn, 1) := by decide +kernel
theorem d_Reader_readSigned_0 : decode M_Reader_readSigned.2.1 0 = .ok (.aload_n 0, 1) := by decide +kernel
theorem d_Reader_readSigned_1 : decode M_Reader_readSigned.2.1 1 = .ok (.getfield 12, 3) := by decide +kernel
theorem d_Reader_readSigned_4 : decode M_Reader_readSigned.2.1 4 = .ok (.getfield 179, 3) := by decide +kernel
theorem d_Reader_readSigned_7 : decode M_Reader_readSigned.2.1 7 = .ok (.iconst 5, 1) := by decide +kernel
theorem d_Reader_readSigned_8 : decode M_Reader_readSigned.2.1 8 = .ok (.if_icmp .lt 9, 3) := by decide +kernel
theorem d_Reader_readSigned_11 : decode M_Reader_readSigned.2.1 11 = .ok (.aload_n 0, 1) := by decide +kernel
theorem d_Reader_readSigned_12 : decode M_Reader_readSigned.2.1 12 = .ok (.iconst 5, 1) := by decide +kernel
theorem d_Reader_readSigned_13 : decode M_Reader_readSigned.2.1 13 = .ok (.invokevirtual 69, 3) := by decide +kernel
theorem d_Reader_readSigned_16 : decode M_Reader_readSigned.2.1 16 = .ok (.ireturn, 1) := by decide +kernel
theorem d_Reader_readSigned_17 : decode M_Reader_readSigned.2.1 17 = .ok (.aload_n 0, 1) := by decide +kernel
theorem d_Reader_readSigned_18 : decode M_Reader_readSigned.2.1 18 = .ok (.getfield 21, 3) := by decide +kernel
theorem d_Reader_readSigned_21 : decode M_Reader_readSigned.2.1 21 = .ok (.invokevirtual 73, 3) := by decide +kernel
theorem d_Reader_readSigned_24 : decode M_Reader_readSigned.2.1 24 = .ok (.aload_n 0, 1) := by decide +kernel
theorem d_Reader_readSigned_25 : decode M_Reader_readSigned.2.1 25 = .ok (.iconst 0, 1) := by decide +kernel
theorem d_Reader_readSigned_26 : decode M_Reader_readSigned.2.1 26 = .ok (.invokevirtual 156, 3) := by decide +kernel
theorem d_Reader_readSigned_29 : decode M_Reader_readSigned.2.1 29 = .ok (.ifCond .ne 5, 3) := by decide +kernel
theorem d_Reader_readSigned_32 : decode M_Reader_readSigned.2.1 32 = .ok (.iconst 0, 1) := by decide +kernel
theorem d_Reader_readSigned_33 : decode M_Reader_readSigned.2.1 33 = .ok (.ireturn, 1) := by decide +kernel
theorem d_Reader_readSigned_34 : decode M_Reader_readSigned.2.1 34 = .ok (.aload_n 0, 1) := by decide +kernel
theorem d_Reader_readSigned_35 : decode M_Reader_readSigned.2.1 35 = .ok (.getfield 131, 3) := by decide +kernel
theorem d_Reader_readSigned_38 : decode M_Reader_readSigned.2.1 38 = .ok (.istore_n 1, 1) := by decide +kernel
theorem d_Reader_readSigned_39 : decode M_Reader_readSigned.2.1 39 = .ok (.aload_n 0, 1) := by decide +kernel
theorem d_Reader_readSigned_40 : decode M_Reader_readSigned.2.1 40 = .ok (.iconst 0, 1) := by decide +kernel
theorem d_Reader_readSigned_41 : decode M_Reader_readSigned.2.1 41 = .ok (.invokevirtual 181, 3) := by decide +kernel
theorem d_Reader_readSigned_44 : decode M_Reader_readSigned.2.1 44 = .ok (.ifCond .ne 5, 3) := by decide +kernel
theorem d_Reader_readSigned_47 : decode M_Reader_readSigned.2.1 47 = .ok (.iconst 0, 1) := by decide +kernel
theorem d_Reader_readSigned_48 : decode M_Reader_readSigned.2.1 48 = .ok (.ireturn, 1) := by decide +kernel
theorem d_Reader_readSigned_49 : decode M_Reader_readSigned.2.1 49 = .ok (.iconst 2, 1) := by decide +kernel
theorem d_Reader_readSigned_50 : decode M_Reader_readSigned.2.1 50 = .ok (.iload_n 1, 1) := by decide +kernel
theorem d_Reader_readSigned_51 : decode M_Reader_readSigned.2.1 51 = .ok (.imul, 1) := by decide +kernel
theorem d_Reader_readSigned_52 : decode M_Reader_readSigned.2.1 52 = .ok (.aload_n 0, 1) := by decide +kernel
theorem d_Reader_readSigned_53 : decode M_Reader_readSigned.2.1 53 = .ok (.getfield 131, 3) := by decide +kernel
theorem d_Reader_readSigned_56 : decode M_Reader_readSigned.2.1 56 = .ok (.iadd, 1) := by decide +kernel
theorem d_Reader_readSigned_57 : decode M_Reader_readSigned.2.1 57 = .ok (.istore_n 2, 1) := by decide +kernel
theorem d_Reader_readSigned_58 : decode M_Reader_readSigned.2.1 58 = .ok (.aload_n 0, 1) := by decide +kernel
theorem d_Reader_readSigned_59 : decode M_Reader_readSigned.2.1 59 = .ok (.iconst 1, 1) := by decide +kernel
theorem d_Reader_readSigned_60 : decode M_Reader_readSigned.2.1 60 = .ok (.invokevirtual 181, 3) := by decide +kernel
theorem d_Reader_readSigned_63 : decode M_Reader_readSigned.2.1 63 = .ok (.ifCond .ne 5, 3) := by decide +kernel
theorem d_Reader_readSigned_66 : decode M_Reader_readSigned.2.1 66 = .ok (.iconst 0, 1) := by decide +kernel
theorem d_Reader_readSigned_67 : decode M_Reader_readSigned.2.1 67 = .ok (.ireturn, 1) := by decide +kernel
theorem d_Reader_readSigned_68 : decode M_Reader_readSigned.2.1 68 = .ok (.aload_n 0, 1) := by decide +kernel
theorem d_Reader_readSigned_69 : decode M_Reader_readSigned.2.1 69 = .ok (.getfield 12, 3) := by decide +kernel
theorem d_Reader_readSigned_72 : decode M_Reader_readSigned.2.1 72 = .ok (.iload_n 2, 1) := by decide +kernel
theorem d_Reader_readSigned_73 : decode M_Reader_readSigned.2.1 73 = .ok (.aload_n 0, 1) := by decide +kernel
theorem d_Reader_readSigned_74 : decode M_Reader_readSigned.2.1 74 = .ok (.getfield 131, 3) := by decide +kernel
theorem d_Reader_readSigned_77 : decode M_Reader_readSigned.2.1 77 = .ok (.invokevirtual 185, 3) := by decide +kernel
theorem d_Reader_readSigned_80 : decode M_Reader_readSigned.2.1 80 = .ok (.iconst 1, 1) := by decide +kernel
theorem d_Reader_readSigned_81 : decode M_Reader_readSigned.2.1 81 = .ok (.ireturn, 1) := by decide +kernel
theorem d_Reader_passWord_0 : decode M_Reader_passWord.2.1 0 = .ok (.aload_n 0, 1) := by decide +kernel
theorem d_Reader_passWord_1 : decode M_Reader_passWord.2.1 1 = .ok (.getfield 21, 3) := by decide +kernel
theorem d_Reader_passWord_4 : decode M_Reader_passWord.2.1 4 = .ok (.aload_n 1, 1) := by decide +kernel
theorem d_Reader_passWord_5 : decode M_Reader_passWord.2.1 5 = .ok (.invokevirtual 107, 3) := by decide +kernel
theorem d_Reader_passWord_8 : decode M_Reader_passWord.2.1 8 = .ok (.ifCond .ne 9, 3) := by decide +kernel
theorem d_Reader_passWord_11 : decode M_Reader_passWord.2.1 11 = .ok (.aload_n 0, 1) := by decide +kernel
theorem d_Reader_passWord_12 : decode M_Reader_passWord.2.1 12 = .ok (.iconst 1, 1) := by decide +kernel
theorem d_Reader_passWord_13 : decode M_Reader_passWord.2.1 13 = .ok (.invokevirtual 69, 3) := by decide +kernel
theorem d_Reader_passWord_16 : decode M_Reader_passWord.2.1 16 = .ok (.ireturn, 1) := by decide +kernel
theorem d_Reader_passWord_17 : decode M_Reader_passWord.2.1 17 = .ok (.aload_n 0, 1) := by decide +kernel
theorem d_Reader_passWord_18 : decode M_Reader_passWord.2.1 18 = .ok (.getfield 21, 3) := by decide +kernel
theorem d_Reader_passWord_21 : decode M_Reader_passWord.2.1 21 = .ok (.invokevirtual 73, 3) := by decide +kernel
theorem d_Reader_passWord_24 : decode M_Reader_passWord.2.1 24 = .ok (.iconst 1, 1) := by decide +kernel
theorem d_Reader_passWord_25 : decode M_Reader_passWord.2.1 25 = .ok (.ireturn, 1) := by decide +kernel
theorem d_Reader_takeWhole_0 : decode M_Reader_takeWhole.2.1 0 = .ok (.aload_n 0, 1) := by decide +kernel
theorem d_Reader_takeWhole_1 : decode M_Reader_takeWhole.2.1 1 = .ok (.getfield 21, 3) := by decide +kernel
theorem d_Reader_takeWhole_4 : decode M_Reader_takeWhole.2.1 4 = .ok (.getfield 57, 3) := by decide +kernel
theorem d_Reader_takeWhole_7 : decode M_Reader_takeWhole.2.1 7 = .ok (.iconst 2, 1) := by decide +kernel
theorem d_Reader_takeWhole_8 : decode M_Reader_takeWhole.2.1 8 = .ok (.if_icmp .eq 9, 3) := by decide +kernel
theorem d_Reader_takeWhole_11 : decode M_Reader_takeWhole.2.1 11 = .ok (.aload_n 0, 1) := by decide +kernel
theorem d_Reader_takeWhole_12 : decode M_Reader_takeWhole.2.1 12 = .ok (.iconst 1, 1) := by decide +kernel
theorem d_Reader_takeWhole_13 : decode M_Reader_takeWhole.2.1 13 = .ok (.invokevirtual 69, 3) := by decide +kernel
theorem d_Reader_takeWhole_16 : decode M_Reader_takeWhole.2.1 16 = .ok (.ireturn, 1) := by decide +kernel
theorem d_Reader_takeWhole_17 : decode M_Reader_takeWhole.2.1 17 = .ok (.aload_n 0, 1) := by decide +kernel
theorem d_Reader_takeWhole_18 : decode M_Reader_takeWhole.2.1 18 = .ok (.getfield 21, 3) := by decide +kernel
theorem d_Reader_takeWhole_21 : decode M_Reader_takeWhole.2.1 21 = .ok (.invokevirtual 188, 3) := by decide +kernel
theorem d_Reader_takeWhole_24 : decode M_Reader_takeWhole.2.1 24 = .ok (.istore_n 2, 1) := by decide +kernel
theorem d_Reader_takeWhole_25 : decode M_Reader_takeWhole.2.1 25 = .ok (.iload_n 2, 1) := by decide +kernel
theorem d_Reader_takeWhole_26 : decode M_Reader_takeWhole.2.1 26 = .ok (.iload_n 1, 1) := by decide +kernel
theorem d_Reader_takeWhole_27 : decode M_Reader_takeWhole.2.1 27 = .ok (.if_icmp .le 9, 3) := by decide +kernel
theorem d_Reader_takeWhole_30 : decode M_Reader_takeWhole.2.1 30 = .ok (.aload_n 0, 1) := by decide +kernel
theorem d_Reader_takeWhole_31 : decode M_Reader_takeWhole.2.1 31 = .ok (.iconst 4, 1) := by decide +kernel
theorem d_Reader_takeWhole_32 : decode M_Reader_takeWhole.2.1 32 = .ok (.invokevirtual 69, 3) := by decide +kernel
theorem d_Reader_takeWhole_35 : decode M_Reader_takeWhole.2.1 35 = .ok (.ireturn, 1) := by decide +kernel
theorem d_Reader_takeWhole_36 : decode M_Reader_takeWhole.2.1 36 = .ok (.aload_n 0, 1) := by decide +kernel
theorem d_Reader_takeWhole_37 : decode M_Reader_takeWhole.2.1 37 = .ok (.iload_n 2, 1) := by decide +kernel
theorem d_Reader_takeWhole_38 : decode M_Reader_takeWhole.2.1 38 = .ok (.putfield 131, 3) := by decide +kernel
theorem d_Reader_takeWhole_41 : decode M_Reader_takeWhole.2.1 41 = .ok (.aload_n 0, 1) := by decide +kernel
theorem d_Reader_takeWhole_42 : decode M_Reader_takeWhole.2.1 42 = .ok (.getfield 21, 3) := by decide +kernel
theorem d_Reader_takeWhole_45 : decode M_Reader_takeWhole.2.1 45 = .ok (.invokevirtual 73, 3) := by decide +kernel
theorem d_Reader_takeWhole_48 : decode M_Reader_takeWhole.2.1 48 = .ok (.iconst 1, 1) := by decide +kernel
theorem d_Reader_takeWhole_49 : decode M_Reader_takeWhole.2.1 49 = .ok (.ireturn, 1) := by decide +kernel
theorem d_Reader_takeNewName_0 : decode M_Reader_takeNewName.2.1 0 = .ok (.aload_n 0, 1) := by decide +kernel
theorem d_Reader_takeNewName_1 : decode M_Reader_takeNewName.2.1 1 = .ok (.getfield 21, 3) := by decide +kernel
theorem d_Reader_takeNewName_4 : decode M_Reader_takeNewName.2.1 4 = .ok (.getfield 57, 3) := by decide +kernel
theorem d_Reader_takeNewName_7 : decode M_Reader_takeNewName.2.1 7 = .ok (.iconst 1, 1) := by decide +kernel
theorem d_Reader_takeNewName_8 : decode M_Reader_takeNewName.2.1 8 = .ok (.if_icmp .ne 10, 3) := by decide +kernel
theorem d_Reader_takeNewName_11 : decode M_Reader_takeNewName.2.1 11 = .ok (.aload_n 0, 1) := by decide +kernel
theorem d_Reader_takeNewName_12 : decode M_Reader_takeNewName.2.1 12 = .ok (.invokevirtual 80, 3) := by decide +kernel
theorem d_Reader_takeNewName_15 : decode M_Reader_takeNewName.2.1 15 = .ok (.ifCond .eq 9, 3) := by decide +kernel
theorem d_Reader_takeNewName_18 : decode M_Reader_takeNewName.2.1 18 = .ok (.aload_n 0, 1) := by decide +kernel
theorem d_Reader_takeNewName_19 : decode M_Reader_takeNewName.2.1 19 = .ok (.iconst 1, 1) := by decide +kernel
theorem d_Reader_takeNewName_20 : decode M_Reader_takeNewName.2.1 20 = .ok (.invokevirtual 69, 3) := by decide +kernel
theorem d_Reader_takeNewName_23 : decode M_Reader_takeNewName.2.1 23 = .ok (.ireturn, 1) := by decide +kernel
theorem d_Reader_takeNewName_24 : decode M_Reader_takeNewName.2.1 24 = .ok (.aload_n 0, 1) := by decide +kernel
theorem d_Reader_takeNewName_25 : decode M_Reader_takeNewName.2.1 25 = .ok (.aload_n 0, 1) := by decide +kernel
theorem d_Reader_takeNewName_26 : decode M_Reader_takeNewName.2.1 26 = .ok (.getfield 21, 3) := by decide +kernel
theorem d_Reader_takeNewName_29 : decode M_Reader_takeNewName.2.1 29 = .ok (.invokevirtual 191, 3) := by decide +kernel
theorem d_Reader_takeNewName_32 : decode M_Reader_takeNewName.2.1 32 = .ok (.putfield 148, 3) := by decide +kernel
theorem d_Reader_takeNewName_35 : decode M_Reader_takeNewName.2.1 35 = .ok (.aload_n 0, 1) := by decide +kernel
theorem d_Reader_takeNewName_36 : decode M_Reader_takeNewName.2.1 36 = .ok (.aload_n 0, 1) := by decide +kernel
theorem d_Reader_takeNewName_37 : decode M_Reader_takeNewName.2.1 37 = .ok (.getfield 148, 3) := by decide +kernel
theorem d_Reader_takeNewName_40 : decode M_Reader_takeNewName.2.1 40 = .ok (.invokevirtual 195, 3) := by decide +kernel
theorem d_Reader_takeNewName_43 : decode M_Reader_takeNewName.2.1 43 = .ok (.iconst (-1), 1) := by decide +kernel
theorem d_Reader_takeNewName_44 : decode M_Reader_takeNewName.2.1 44 = .ok (.if_icmp .ne 14, 3) := by decide +kernel
theorem d_Reader_takeNewName_47 : decode M_Reader_takeNewName.2.1 47 = .ok (.aload_n 0, 1) := by decide +kernel
theorem d_Reader_takeNewName_48 : decode M_Reader_takeNewName.2.1 48 = .ok (.aload_n 0, 1) := by decide +kernel
theorem d_Reader_takeNewName_49 : decode M_Reader_takeNewName.2.1 49 = .ok (.getfield 148, 3) := by decide +kernel
theorem d_Reader_takeNewName_52 : decode M_Reader_takeNewName.2.1 52 = .ok (.invokevirtual 199, 3) := by decide +kernel
theorem d_Reader_takeNewName_55 : decode M_Reader_takeNewName.2.1 55 = .ok (.ifCond .eq 9, 3) := by decide +kernel
theorem d_Reader_takeNewName_58 : decode M_Reader_takeNewName.2.1 58 = .ok (.aload_n 0, 1) := by decide +kernel
theorem d_Reader_takeNewName_59 : decode M_Reader_takeNewName.2.1 59 = .ok (.iconst 3, 1) := by decide +kernel
theorem d_Reader_takeNewName_60 : decode M_Reader_takeNewName.2.1 60 = .ok (.invokevirtual 69, 3) := by decide +kernel
theorem d_Reader_takeNewName_63 : decode M_Reader_takeNewName.2.1 63 = .ok (.ireturn, 1) := by decide +kernel
theorem d_Reader_takeNewName_64 : decode M_Reader_takeNewName.2.1 64 = .ok (.aload_n 0, 1) := by decide +kernel
theorem d_Reader_takeNewName_65 : decode M_Reader_takeNewName.2.1 65 = .ok (.getfield 21, 3) := by decide +kernel
theorem d_Reader_takeNewName_68 : decode M_Reader_takeNewName.2.1 68 = .ok (.invokevirtual 73, 3) := by decide +kernel
theorem d_Reader_takeNewName_71 : decode M_Reader_takeNewName.2.1 71 = .ok (.iconst 1, 1) := by decide +kernel
theorem d_Reader_takeNewName_72 : decode M_Reader_takeNewName.2.1 72 = .ok (.ireturn, 1) := by decide +kernel
theorem d_Reader_takeFolly_0 : decode M_Reader_takeFolly.2.1 0 = .ok (.aload_n 0, 1) := by decide +kernel
theorem d_Reader_takeFolly_1 : decode M_Reader_takeFolly.2.1 1 = .ok (.getfield 21, 3) := by decide +kernel
theorem d_Reader_takeFolly_4 : decode M_Reader_takeFolly.2.1 4 = .ok (.getfield 57, 3) := by decide +kernel
theorem d_Reader_takeFolly_7 : decode M_Reader_takeFolly.2.1 7 = .ok (.iconst 1, 1) := by decide +kernel
theorem d_Reader_takeFolly_8 : decode M_Reader_takeFolly.2.1 8 = .ok (.if_icmp .ne 10, 3) := by decide +kernel
theorem d_Reader_takeFolly_11 : decode M_Reader_takeFolly.2.1 11 = .ok (.aload_n 0, 1) := by decide +kernel
theorem d_Reader_takeFolly_12 : decode M_Reader_takeFolly.2.1 12 = .ok (.invokevirtual 80, 3) := by decide +kernel
theorem d_Reader_takeFolly_15 : decode M_Reader_takeFolly.2.1 15 = .ok (.ifCond .eq 9, 3) := by decide +kernel
theorem d_Reader_takeFolly_18 : decode M_Reader_takeFolly.2.1 18 = .ok (.aload_n 0, 1) := by decide +kernel
theorem d_Reader_takeFolly_19 : decode M_Reader_takeFolly.2.1 19 = .ok (.iconst 1, 1) := by decide +kernel
theorem d_Reader_takeFolly_20 : decode M_Reader_takeFolly.2.1 20 = .ok (.invokevirtual 69, 3) := by decide +kernel
theorem d_Reader_takeFolly_23 : decode M_Reader_takeFolly.2.1 23 = .ok (.ireturn, 1) := by decide +kernel
theorem d_Reader_takeFolly_24 : decode M_Reader_takeFolly.2.1 24 = .ok (.aload_n 0, 1) := by decide +kernel
theorem d_Reader_takeFolly_25 : decode M_Reader_takeFolly.2.1 25 = .ok (.aload_n 0, 1) := by decide +kernel
theorem d_Reader_takeFolly_26 : decode M_Reader_takeFolly.2.1 26 = .ok (.getfield 21, 3) := by decide +kernel
theorem d_Reader_takeFolly_29 : decode M_Reader_takeFolly.2.1 29 = .ok (.invokevirtual 191, 3) := by decide +kernel
theorem d_Reader_takeFolly_32 : decode M_Reader_takeFolly.2.1 32 = .ok (.invokevirtual 195, 3) := by decide +kernel
theorem d_Reader_takeFolly_35 : decode M_Reader_takeFolly.2.1 35 = .ok (.istore_n 2, 1) := by decide +kernel
theorem d_Reader_takeFolly_36 : decode M_Reader_takeFolly.2.1 36 = .ok (.iload_n 2, 1) := by decide +kernel
theorem d_Reader_takeFolly_37 : decode M_Reader_takeFolly.2.1 37 = .ok (.iconst (-1), 1) := by decide +kernel
theorem d_Reader_takeFolly_38 : decode M_Reader_takeFolly.2.1 38 = .ok (.if_icmp .ne 9, 3) := by decide +kernel
theorem d_Reader_takeFolly_41 : decode M_Reader_takeFolly.2.1 41 = .ok (.aload_n 0, 1) := by decide +kernel
theorem d_Reader_takeFolly_42 : decode M_Reader_takeFolly.2.1 42 = .ok (.iconst 2, 1) := by decide +kernel
theorem d_Reader_takeFolly_43 : decode M_Reader_takeFolly.2.1 43 = .ok (.invokevirtual 69, 3) := by decide +kernel
theorem d_Reader_takeFolly_46 : decode M_Reader_takeFolly.2.1 46 = .ok (.ireturn, 1) := by decide +kernel
theorem d_Reader_takeFolly_47 : decode M_Reader_takeFolly.2.1 47 = .ok (.iload_n 1, 1) := by decide +kernel
theorem d_Reader_takeFolly_48 : decode M_Reader_takeFolly.2.1 48 = .ok (.iload_n 2, 1) := by decide +kernel
theorem d_Reader_takeFolly_49 : decode M_Reader_takeFolly.2.1 49 = .ok (.ishr, 1) := by decide +kernel
theorem d_Reader_takeFolly_50 : decode M_Reader_takeFolly.2.1 50 = .ok (.iconst 1, 1) := by decide +kernel
theorem d_Reader_takeFolly_51 : decode M_Reader_takeFolly.2.1 51 = .ok (.iand, 1) := by decide +kernel
theorem d_Reader_takeFolly_52 : decode M_Reader_takeFolly.2.1 52 = .ok (.ifCond .eq 9, 3) := by decide +kernel
theorem d_Reader_takeFolly_55 : decode M_Reader_takeFolly.2.1 55 = .ok (.aload_n 0, 1) := by decide +kernel
theorem d_Reader_takeFolly_56 : decode M_Reader_takeFolly.2.1 56 = .ok (.iconst 3, 1) := by decide +kernel
theorem d_Reader_takeFolly_57 : decode M_Reader_takeFolly.2.1 57 = .ok (.invokevirtual 69, 3) := by decide +kernel
theorem d_Reader_takeFolly_60 : decode M_Reader_takeFolly.2.1 60 = .ok (.ireturn, 1) := by decide +kernel
theorem d_Reader_takeFolly_61 : decode M_Reader_takeFolly.2.1 61 = .ok (.aload_n 0, 1) := by decide +kernel
theorem d_Reader_takeFolly_62 : decode M_Reader_takeFolly.2.1 62 = .ok (.iload_n 2, 1) := by decide +kernel
theorem d_Reader_takeFolly_63 : decode M_Reader_takeFolly.2.1 63 = .ok (.putfield 131, 3) := by decide +kernel
theorem d_Reader_takeFolly_66 : decode M_Reader_takeFolly.2.1 66 = .ok (.aload_n 0, 1) := by decide +kernel
theorem d_Reader_takeFolly_67 : decode M_Reader_takeFolly.2.1 67 = .ok (.getfield 21, 3) := by decide +kernel
theorem d_Reader_takeFolly_70 : decode M_Reader_takeFolly.2.1 70 = .ok (.invokevirtual 73, 3) := by decide +kernel
theorem d_Reader_takeFolly_73 : decode M_Reader_takeFolly.2.1 73 = .ok (.iconst 1, 1) := by decide +kernel
theorem d_Reader_takeFolly_74 : decode M_Reader_takeFolly.2.1 74 = .ok (.ireturn, 1) := by decide +kernel
theorem d_Reader_takeShape_0 : decode M_Reader_takeShape.2.1 0 = .ok (.aload_n 0, 1) := by decide +kernel
theorem d_Reader_takeShape_1 : decode M_Reader_takeShape.2.1 1 = .ok (.getfield 21, 3) := by decide +kernel
theorem d_Reader_takeShape_4 : decode M_Reader_takeShape.2.1 4 = .ok (.ldc 203, 2) := by decide +kernel
theorem d_Reader_takeShape_6 : decode M_Reader_takeShape.2.1 6 = .ok (.invokevirtual 107, 3) := by decide +kernel
theorem d_Reader_takeShape_9 : decode M_Reader_takeShape.2.1 9 = .ok (.ifCond .eq 11, 3) := by decide +kernel
theorem d_Reader_takeShape_12 : decode M_Reader_takeShape.2.1 12 = .ok (.aload_n 0, 1) := by decide +kernel
theorem d_Reader_takeShape_13 : decode M_Reader_takeShape.2.1 13 = .ok (.iconst 0, 1) := by decide +kernel
theorem d_Reader_takeShape_14 : decode M_Reader_takeShape.2.1 14 = .ok (.putfield 131, 3) := by decide +kernel
theorem d_Reader_takeShape_17 : decode M_Reader_takeShape.2.1 17 = .ok (.goto 89, 3) := by decide +kernel
theorem d_Reader_takeShape_20 : decode M_Reader_takeShape.2.1 20 = .ok (.aload_n 0, 1) := by decide +kernel
theorem d_Reader_takeShape_21 : decode M_Reader_takeShape.2.1 21 = .ok (.getfield 21, 3) := by decide +kernel
theorem d_Reader_takeShape_24 : decode M_Reader_takeShape.2.1 24 = .ok (.ldc 205, 2) := by decide +kernel
theorem d_Reader_takeShape_26 : decode M_Reader_takeShape.2.1 26 = .ok (.invokevirtual 107, 3) := by decide +kernel
theorem d_Reader_takeShape_29 : decode M_Reader_takeShape.2.1 29 = .ok (.ifCond .eq 11, 3) := by decide +kernel
theorem d_Reader_takeShape_32 : decode M_Reader_takeShape.2.1 32 = .ok (.aload_n 0, 1) := by decide +kernel
theorem d_Reader_takeShape_33 : decode M_Reader_takeShape.2.1 33 = .ok (.iconst 1, 1) := by decide +kernel
theorem d_Reader_takeShape_34 : decode M_Reader_takeShape.2.1 34 = .ok (.putfield 131, 3) := by decide +kernel
theorem d_Reader_takeShape_37 : decode M_Reader_takeShape.2.1 37 = .ok (.goto 69, 3) := by decide +kernel
theorem d_Reader_takeShape_40 : decode M_Reader_takeShape.2.1 40 = .ok (.aload_n 0, 1) := by decide +kernel
theorem d_Reader_takeShape_41 : decode M_Reader_takeShape.2.1 41 = .ok (.getfield 21, 3) := by decide +kernel
theorem d_Reader_takeShape_44 : decode M_Reader_takeShape.2.1 44 = .ok (.ldc 207, 2) := by decide +kernel
theorem d_Reader_takeShape_46 : decode M_Reader_takeShape.2.1 46 = .ok (.invokevirtual 107, 3) := by decide +kernel
theorem d_Reader_takeShape_49 : decode M_Reader_takeShape.2.1 49 = .ok (.ifCond .eq 11, 3) := by decide +kernel
theorem d_Reader_takeShape_52 : decode M_Reader_takeShape.2.1 52 = .ok (.aload_n 0, 1) := by decide +kernel
theorem d_Reader_takeShape_53 : decode M_Reader_takeShape.2.1 53 = .ok (.iconst 2, 1) := by decide +kernel
theorem d_Reader_takeShape_54 : decode M_Reader_takeShape.2.1 54 = .ok (.putfield 131, 3) := by decide +kernel
theorem d_Reader_takeShape_57 : decode M_Reader_takeShape.2.1 57 = .ok (.goto 49, 3) := by decide +kernel
theorem d_Reader_takeShape_60 : decode M_Reader_takeShape.2.1 60 = .ok (.aload_n 0, 1) := by decide +kernel
theorem d_Reader_takeShape_61 : decode M_Reader_takeShape.2.1 61 = .ok (.getfield 21, 3) := by decide +kernel
theorem d_Reader_takeShape_64 : decode M_Reader_takeShape.2.1 64 = .ok (.ldc 209, 2) := by decide +kernel
theorem d_Reader_takeShape_66 : decode M_Reader_takeShape.2.1 66 = .ok (.invokevirtual 107, 3) := by decide +kernel
theorem d_Reader_takeShape_69 : decode M_Reader_takeShape.2.1 69 = .ok (.ifCond .eq 11, 3) := by decide +kernel
theorem d_Reader_takeShape_72 : decode M_Reader_takeShape.2.1 72 = .ok (.aload_n 0, 1) := by decide +kernel
theorem d_Reader_takeShape_73 : decode M_Reader_takeShape.2.1 73 = .ok (.iconst 3, 1) := by decide +kernel
theorem d_Reader_takeShape_74 : decode M_Reader_takeShape.2.1 74 = .ok (.putfield 131, 3) := by decide +kernel
theorem d_Reader_takeShape_77 : decode M_Reader_takeShape.2.1 77 = .ok (.goto 29, 3) := by decide +kernel
theorem d_Reader_takeShape_80 : decode M_Reader_takeShape.2.1 80 = .ok (.aload_n 0, 1) := by decide +kernel
theorem d_Reader_takeShape_81 : decode M_Reader_takeShape.2.1 81 = .ok (.getfield 21, 3) := by decide +kernel
theorem d_Reader_takeShape_84 : decode M_Reader_takeShape.2.1 84 = .ok (.ldc 211, 2) := by decide +kernel
theorem d_Reader_takeShape_86 : decode M_Reader_takeShape.2.1 86 = .ok (.invokevirtual 107, 3) := by decide +kernel
theorem d_Reader_takeShape_89 : decode M_Reader_takeShape.2.1 89 = .ok (.ifCond .eq 11, 3) := by decide +kernel
theorem d_Reader_takeShape_92 : decode M_Reader_takeShape.2.1 92 = .ok (.aload_n 0, 1) := by decide +kernel
theorem d_Reader_takeShape_93 : decode M_Reader_takeShape.2.1 93 = .ok (.iconst 4, 1) := by decide +kernel
theorem d_Reader_takeShape_94 : decode M_Reader_takeShape.2.1 94 = .ok (.putfield 131, 3) := by decide +kernel
theorem d_Reader_takeShape_97 : decode M_Reader_takeShape.2.1 97 = .ok (.goto 9, 3) := by decide +kernel
theorem d_Reader_takeShape_100 : decode M_Reader_takeShape.2.1 100 = .ok (.aload_n 0, 1) := by decide +kernel
theorem d_Reader_takeShape_101 : decode M_Reader_takeShape.2.1 101 = .ok (.iconst 1, 1) := by decide +kernel
theorem d_Reader_takeShape_102 : decode M_Reader_takeShape.2.1 102 = .ok (.invokevirtual 69, 3) := by decide +kernel
theorem d_Reader_takeShape_105 : decode M_Reader_takeShape.2.1 105 = .ok (.ireturn, 1) := by decide +kernel
theorem d_Reader_takeShape_106 : decode M_Reader_takeShape.2.1 106 = .ok (.aload_n 0, 1) := by decide +kernel
theorem d_Reader_takeShape_107 : decode M_Reader_takeShape.2.1 107 = .ok (.getfield 21, 3) := by decide +kernel
theorem d_Reader_takeShape_110 : decode M_Reader_takeShape.2.1 110 = .ok (.invokevirtual 73, 3) := by decide +kernel
theorem d_Reader_takeShape_113 : decode M_Reader_takeShape.2.1 113 = .ok (.iconst 1, 1) := by decide +kernel
theorem d_Reader_takeShape_114 : decode M_Reader_takeShape.2.1 114 = .ok (.ireturn, 1) := by decide +kernel
theorem d_Reader_takeAnswer_0 : decode M_Reader_takeAnswer.2.1 0 = .ok (.aload_n 0, 1) := by decide +kernel
theorem d_Reader_takeAnswer_1 : decode M_Reader_takeAnswer.2.1 1 = .ok (.getfield 21, 3) := by decide +kernel
theorem d_Reader_takeAnswer_4 : decode M_Reader_takeAnswer.2.1 4 = .ok (.ldc 213, 2) := by decide +kernel
theorem d_Reader_takeAnswer_6 : decode M_Reader_takeAnswer.2.1 6 = .ok (.invokevirtual 107, 3) := by decide +kernel
theorem d_Reader_takeAnswer_9 : decode M_Reader_takeAnswer.2.1 9 = .ok (.ifCond .eq 11, 3) := by decide +kernel
theorem d_Reader_takeAnswer_12 : decode M_Reader_takeAnswer.2.1 12 = .ok (.aload_n 0, 1) := by decide +kernel
theorem d_Reader_takeAnswer_13 : decode M_Reader_takeAnswer.2.1 13 = .ok (.iconst 1, 1) := by decide +kernel
theorem d_Reader_takeAnswer_14 : decode M_Reader_takeAnswer.2.1 14 = .ok (.putfield 131, 3) := by decide +kernel
theorem d_Reader_takeAnswer_17 : decode M_Reader_takeAnswer.2.1 17 = .ok (.goto 54, 3) := by decide +kernel
theorem d_Reader_takeAnswer_20 : decode M_Reader_takeAnswer.2.1 20 = .ok (.aload_n 0, 1) := by decide +kernel
theorem d_Reader_takeAnswer_21 : decode M_Reader_takeAnswer.2.1 21 = .ok (.getfield 21, 3) := by decide +kernel
theorem d_Reader_takeAnswer_24 : decode M_Reader_takeAnswer.2.1 24 = .ok (.ldc 215, 2) := by decide +kernel
theorem d_Reader_takeAnswer_26 : decode M_Reader_takeAnswer.2.1 26 = .ok (.invokevirtual 107, 3) := by decide +kernel
theorem d_Reader_takeAnswer_29 : decode M_Reader_takeAnswer.2.1 29 = .ok (.ifCond .eq 11, 3) := by decide +kernel
theorem d_Reader_takeAnswer_32 : decode M_Reader_takeAnswer.2.1 32 = .ok (.aload_n 0, 1) := by decide +kernel
theorem d_Reader_takeAnswer_33 : decode M_Reader_takeAnswer.2.1 33 = .ok (.iconst 0, 1) := by decide +kernel
theorem d_Reader_takeAnswer_34 : decode M_Reader_takeAnswer.2.1 34 = .ok (.putfield 131, 3) := by decide +kernel
theorem d_Reader_takeAnswer_37 : decode M_Reader_takeAnswer.2.1 37 = .ok (.goto 34, 3) := by decide +kernel
theorem d_Reader_takeAnswer_40 : decode M_Reader_takeAnswer.2.1 40 = .ok (.iload_n 1, 1) := by decide +kernel
theorem d_Reader_takeAnswer_41 : decode M_Reader_takeAnswer.2.1 41 = .ok (.ifCond .eq 24, 3) := by decide +kernel
theorem d_Reader_takeAnswer_44 : decode M_Reader_takeAnswer.2.1 44 = .ok (.aload_n 0, 1) := by decide +kernel
theorem d_Reader_takeAnswer_45 : decode M_Reader_takeAnswer.2.1 45 = .ok (.getfield 21, 3) := by decide +kernel
theorem d_Reader_takeAnswer_48 : decode M_Reader_takeAnswer.2.1 48 = .ok (.ldc 217, 2) := by decide +kernel
theorem d_Reader_takeAnswer_50 : decode M_Reader_takeAnswer.2.1 50 = .ok (.invokevirtual 107, 3) := by decide +kernel
theorem d_Reader_takeAnswer_53 : decode M_Reader_takeAnswer.2.1 53 = .ok (.ifCond .eq 12, 3) := by decide +kernel
theorem d_Reader_takeAnswer_56 : decode M_Reader_takeAnswer.2.1 56 = .ok (.aload_n 0, 1) := by decide +kernel
theorem d_Reader_takeAnswer_57 : decode M_Reader_takeAnswer.2.1 57 = .ok (.bipush (-2), 2) := by decide +kernel
theorem d_Reader_takeAnswer_59 : decode M_Reader_takeAnswer.2.1 59 = .ok (.putfield 131, 3) := by decide +kernel
theorem d_Reader_takeAnswer_62 : decode M_Reader_takeAnswer.2.1 62 = .ok (.goto 9, 3) := by decide +kernel
theorem d_Reader_takeAnswer_65 : decode M_Reader_takeAnswer.2.1 65 = .ok (.aload_n 0, 1) := by decide +kernel
theorem d_Reader_takeAnswer_66 : decode M_Reader_takeAnswer.2.1 66 = .ok (.iconst 1, 1) := by decide +kernel
theorem d_Reader_takeAnswer_67 : decode M_Reader_takeAnswer.2.1 67 = .ok (.invokevirtual 69, 3) := by decide +kernel
theorem d_Reader_takeAnswer_70 : decode M_Reader_takeAnswer.2.1 70 = .ok (.ireturn, 1) := by decide +kernel
theorem d_Reader_takeAnswer_71 : decode M_Reader_takeAnswer.2.1 71 = .ok (.aload_n 0, 1) := by decide +kernel
theorem d_Reader_takeAnswer_72 : decode M_Reader_takeAnswer.2.1 72 = .ok (.getfield 21, 3) := by decide +kernel
theorem d_Reader_takeAnswer_75 : decode M_Reader_takeAnswer.2.1 75 = .ok (.invokevirtual 73, 3) := by decide +kernel
theorem d_Reader_takeAnswer_78 : decode M_Reader_takeAnswer.2.1 78 = .ok (.iconst 1, 1) := by decide +kernel
theorem d_Reader_takeAnswer_79 : decode M_Reader_takeAnswer.2.1 79 = .ok (.ireturn, 1) := by decide +kernel
theorem d_Reader_follyNamed_0 : decode M_Reader_follyNamed.2.1 0 = .ok (.iconst 0, 1) := by decide +kernel
theorem d_Reader_follyNamed_1 : decode M_Reader_follyNamed.2.1 1 = .ok (.istore_n 3, 1) := by decide +kernel
theorem d_Reader_follyNamed_2 : decode M_Reader_follyNamed.2.1 2 = .ok (.iload_n 3, 1) := by decide +kernel
theorem d_Reader_follyNamed_3 : decode M_Reader_follyNamed.2.1 3 = .ok (.aload_n 0, 1) := by decide +kernel
theorem d_Reader_follyNamed_4 : decode M_Reader_follyNamed.2.1 4 = .ok (.getfield 12, 3) := by decide +kernel
theorem d_Reader_follyNamed_7 : decode M_Reader_follyNamed.2.1 7 = .ok (.getfield 60, 3) := by decide +kernel
theorem d_Reader_follyNamed_10 : decode M_Reader_follyNamed.2.1 10 = .ok (.getfield 64, 3) := by decide +kernel
theorem d_Reader_follyNamed_13 : decode M_Reader_follyNamed.2.1 13 = .ok (.if_icmp .ge 22, 3) := by decide +kernel
theorem d_Reader_follyNamed_16 : decode M_Reader_follyNamed.2.1 16 = .ok (.aload_n 0, 1) := by decide +kernel
theorem d_Reader_follyNamed_17 : decode M_Reader_follyNamed.2.1 17 = .ok (.getfield 25, 3) := by decide +kernel
theorem d_Reader_follyNamed_20 : decode M_Reader_follyNamed.2.1 20 = .ok (.iload_n 3, 1) := by decide +kernel
theorem d_Reader_follyNamed_21 : decode M_Reader_follyNamed.2.1 21 = .ok (.laload, 1) := by decide +kernel
theorem d_Reader_follyNamed_22 : decode M_Reader_follyNamed.2.1 22 = .ok (.lload_n 1, 1) := by decide +kernel
theorem d_Reader_follyNamed_23 : decode M_Reader_follyNamed.2.1 23 = .ok (.lcmp, 1) := by decide +kernel
theorem d_Reader_follyNamed_24 : decode M_Reader_follyNamed.2.1 24 = .ok (.ifCond .ne 5, 3) := by decide +kernel
theorem d_Reader_follyNamed_27 : decode M_Reader_follyNamed.2.1 27 = .ok (.iload_n 3, 1) := by decide +kernel
theorem d_Reader_follyNamed_28 : decode M_Reader_follyNamed.2.1 28 = .ok (.ireturn, 1) := by decide +kernel
theorem d_Reader_follyNamed_29 : decode M_Reader_follyNamed.2.1 29 = .ok (.iinc 3 1, 3) := by decide +kernel
theorem d_Reader_follyNamed_32 : decode M_Reader_follyNamed.2.1 32 = .ok (.goto (-30), 3) := by decide +kernel
theorem d_Reader_follyNamed_35 : decode M_Reader_follyNamed.2.1 35 = .ok (.iconst (-1), 1) := by decide +kernel
theorem d_Reader_follyNamed_36 : decode M_Reader_follyNamed.2.1 36 = .ok (.ireturn, 1) := by decide +kernel
theorem d_Reader_isEstateNamed_0 : decode M_Reader_isEstateNamed.2.1 0 = .ok (.iconst 0, 1) := by decide +kernel
theorem d_Reader_isEstateNamed_1 : decode M_Reader_isEstateNamed.2.1 1 = .ok (.istore_n 3, 1) := by decide +kernel
theorem d_Reader_isEstateNamed_2 : decode M_Reader_isEstateNamed.2.1 2 = .ok (.iload_n 3, 1) := by decide +kernel
theorem d_Reader_isEstateNamed_3 : decode M_Reader_isEstateNamed.2.1 3 = .ok (.aload_n 0, 1) := by decide +kernel
theorem d_Reader_isEstateNamed_4 : decode M_Reader_isEstateNamed.2.1 4 = .ok (.getfield 12, 3) := by decide +kernel
theorem d_Reader_isEstateNamed_7 : decode M_Reader_isEstateNamed.2.1 7 = .ok (.getfield 165, 3) := by decide +kernel
theorem d_Reader_isEstateNamed_10 : decode M_Reader_isEstateNamed.2.1 10 = .ok (.if_icmp .ge 22, 3) := by decide +kernel
theorem d_Reader_isEstateNamed_13 : decode M_Reader_isEstateNamed.2.1 13 = .ok (.aload_n 0, 1) := by decide +kernel
theorem d_Reader_isEstateNamed_14 : decode M_Reader_isEstateNamed.2.1 14 = .ok (.getfield 29, 3) := by decide +kernel
theorem d_Reader_isEstateNamed_17 : decode M_Reader_isEstateNamed.2.1 17 = .ok (.iload_n 3, 1) := by decide +kernel
theorem d_Reader_isEstateNamed_18 : decode M_Reader_isEstateNamed.2.1 18 = .ok (.laload, 1) := by decide +kernel
theorem d_Reader_isEstateNamed_19 : decode M_Reader_isEstateNamed.2.1 19 = .ok (.lload_n 1, 1) := by decide +kernel
theorem d_Reader_isEstateNamed_20 : decode M_Reader_isEstateNamed.2.1 20 = .ok (.lcmp, 1) := by decide +kernel
theorem d_Reader_isEstateNamed_21 : decode M_Reader_isEstateNamed.2.1 21 = .ok (.ifCond .ne 5, 3) := by decide +kernel
theorem d_Reader_isEstateNamed_24 : decode M_Reader_isEstateNamed.2.1 24 = .ok (.iconst 1, 1) := by decide +kernel
theorem d_Reader_isEstateNamed_25 : decode M_Reader_isEstateNamed.2.1 25 = .ok (.ireturn, 1) := by decide +kernel
theorem d_Reader_isEstateNamed_26 : decode M_Reader_isEstateNamed.2.1 26 = .ok (.iinc 3 1, 3) := by decide +kernel
theorem d_Reader_isEstateNamed_29 : decode M_Reader_isEstateNamed.2.1 29 = .ok (.goto (-27), 3) := by decide +kernel
theorem d_Reader_isEstateNamed_32 : decode M_Reader_isEstateNamed.2.1 32 = .ok (.iconst 0, 1) := by decide +kernel
theorem d_Reader_isEstateNamed_33 : decode M_Reader_isEstateNamed.2.1 33 = .ok (.ireturn, 1) := by decide +kernel
set_option maxRecDepth 4000 in
theorem t_Reader_read_38 {d : Nat} {I : Nat → Nat → Int32} {J : Nat → Nat → Int64} {R : Nat → Nat → Option Nat} {Q : Option Value → ow_H → Prop}  {v3 : Int32}  (hR : ow_RF R) (T : ((900 < v3 → (ow_AM M_Reader_fail d [.ref 13, .int 1] (85, I, J, R) (fun r h' => ∃ (r7 : Int32) (I7 : Nat → Nat → Int32) (J7 : Nat → Nat → Int64) (R7 : Nat → Nat → Option Nat), r = some (.int r7) ∧ h' = (85, I7, J7, R7) ∧ ow_RF R7 ∧ ((r7 = 0 ∨ r7 = 1) ∧ Q (some (.int r7)) (85, I7, J7, R7))))) ∧ (¬ 900 < v3 → (ow_AM M_Reader_readLine d [.ref 13] (85, I, J, R) (fun r h' => ∃ (r8 : Int32) (I8 : Nat → Nat → Int32) (J8 : Nat → Nat → Int64) (R8 : Nat → Nat → Option Nat), r = some (.int r8) ∧ h' = (85, I8, J8, R8) ∧ ow_RF R8 ∧ ((¬ r8 = 0 → ((¬ (I8 25 3) = 0 → (((I8 25 3) = 3 → (ow_AM M_Tokens_advance d [.ref 25] (85, I8, J8, R8) (fun r h' => ∃ (I9 : Nat → Nat → Int32) (J9 : Nat → Nat → Int64) (R9 : Nat → Nat → Option Nat), r = none ∧ h' = (85, I9, J9, R9) ∧ ow_RF R9 ∧ ow_AW ow_Y0 (ow_Z Q) M_Reader_read (d + 1) 0 0 38 [(0, .ref 13), (3, .int (v3 + 1))] [] (85, I9, J9, R9) 0 0))) ∧ (¬ (I8 25 3) = 3 → (ow_AM M_Reader_fail d [.ref 13, .int 1] (85, I8, J8, R8) (fun r h' => ∃ (r10 : Int32) (I10 : Nat → Nat → Int32) (J10 : Nat → Nat → Int64) (R10 : Nat → Nat → Option Nat), r = some (.int r10) ∧ h' = (85, I10, J10, R10) ∧ ow_RF R10 ∧ ((r10 = 0 ∨ r10 = 1) ∧ Q (some (.int r10)) (85, I10, J10, R10))))))) ∧ ((I8 25 3) = 0 → ((0 < (I8 15 0) → Q (some (.int 1)) (85, I8, J8, R8)) ∧ (¬ 0 < (I8 15 0) → (ow_AM M_Reader_fail d [.ref 13, .int 6] (85, I8, J8, R8) (fun r h' => ∃ (r11 : Int32) (I11 : Nat → Nat → Int32) (J11 : Nat → Nat → Int64) (R11 : Nat → Nat → Option Nat), r = some (.int r11) ∧ h' = (85, I11, J11, R11) ∧ ow_RF R11 ∧ ((r11 = 0 → Q (some (.int 0)) (85, I11, J11, R11)) ∧ (¬ r11 = 0 → Q (some (.int 1)) (85, I11, J11, R11)))))))))) ∧ (r8 = 0 → Q (some (.int 0)) (85, I8, J8, R8)))))))) : ow_AW ow_Y0 (ow_Z Q) M_Reader_read (d + 1) 0 0 38 [(0, .ref 13), (3, .int v3)] [] (85, I, J, R) 0 0 := by
  refine ow_iload_n 1 rfl d_Reader_read_38 ?_
  refine ow_sipush (v := 900) (by decide) d_Reader_read_39 ?_
  refine ow_icmp_gt (tgt := 122) d_Reader_read_42 (by decide) (fun c => ?_) (fun c => ?_)
  · replace T := T.1 c
    refine ow_aload_n 0 rfl d_Reader_read_122 ?_
    refine ow_iconst (v := 1) (by decide) d_Reader_read_123 ?_
    refine ow_callV (b := 13) (cq := 3) (As := [.int 1]) (rest := []) (d2 := d) d_Reader_read_124 l_Reader_69 v_Reader_fail (show 13 < 85 by decide) rfl (by decide) rfl (Nat.le_of_ble_eq_true rfl) (Nat.le_refl _) ⟨Nat.le_refl _, Nat.le_refl _⟩ (ow_mono T ?_)
    rintro r h' ⟨r7, I7, J7, R7, rfl, rfl, hR7, T⟩
    show ow_AW ow_Y0 (ow_Z Q) M_Reader_read (d + 1) 0 0 127 [(0, .ref 13), (3, .int v3)] [.int r7] (85, I7, J7, R7) 0 0
    exact ow_zret d_Reader_read_127 rfl T.1 T.2
  · replace T := T.2 c
    refine ow_aload_n 0 rfl d_Reader_read_45 ?_
    refine ow_callV (b := 13) (cq := 3) (As := []) (rest := []) (d2 := d) d_Reader_read_46 l_Reader_53 v_Reader_readLine (show 13 < 85 by decide) rfl (by decide) rfl (Nat.le_of_ble_eq_true rfl) (Nat.le_refl _) ⟨Nat.le_refl _, Nat.le_refl _⟩ (ow_mono T ?_)
    rintro r h' ⟨r8, I8, J8, R8, rfl, rfl, hR8, T⟩
    show ow_AW ow_Y0 (ow_Z Q) M_Reader_read (d + 1) 0 0 49 [(0, .ref 13), (3, .int v3)] [.int r8] (85, I8, J8, R8) 0 0
    refine ow_if_ne (tgt := 54) d_Reader_read_49 (by decide) (fun c => ?_) (fun c => ?_)
    · replace T := T.1 c
      refine ow_aload_n 0 rfl d_Reader_read_54 ?_
      refine ow_gR (a := 25) 74 d_Reader_read_55 rfl rfl (by decide) rfl ⟨rfl, hR8 13 1 (by decide)⟩ ?_
      refine ow_gI 68 d_Reader_read_58 rfl rfl (by decide) rfl (Or.inl rfl) ?_
      refine ow_if_ne (tgt := 92) d_Reader_read_61 (by decide) (fun c => ?_) (fun c => ?_)
      · replace T := T.1 c
        refine ow_aload_n 0 rfl d_Reader_read_92 ?_
        refine ow_gR (a := 25) 74 d_Reader_read_93 rfl rfl (by decide) rfl ⟨rfl, hR8 13 1 (by decide)⟩ ?_
        refine ow_gI 68 d_Reader_read_96 rfl rfl (by decide) rfl (Or.inl rfl) ?_
        refine ow_iconst (v := 3) (by decide) d_Reader_read_99 ?_
        refine ow_icmp_eq (tgt := 109) d_Reader_read_100 (by decide) (fun c => ?_) (fun c => ?_)
        · replace T := T.1 c
          refine ow_aload_n 0 rfl d_Reader_read_109 ?_
          refine ow_gR (a := 25) 74 d_Reader_read_110 rfl rfl (by decide) rfl ⟨rfl, hR8 13 1 (by decide)⟩ ?_
          refine ow_callV (b := 25) (cq := 7) (As := []) (rest := []) (d2 := d) d_Reader_read_113 l_Reader_73 v_Tokens_advance (show 25 < 85 by decide) rfl (by decide) rfl (Nat.le_of_ble_eq_true rfl) (Nat.le_refl _) ⟨Nat.le_refl _, Nat.le_refl _⟩ (ow_mono T ?_)
          rintro r h' ⟨I9, J9, R9, rfl, rfl, hR9, T⟩
          show ow_AW ow_Y0 (ow_Z Q) M_Reader_read (d + 1) 0 0 116 [(0, .ref 13), (3, .int v3)] [] (85, I9, J9, R9) 0 0
          refine ow_iinc 1 (v := (v3 + 1)) (ls2 := [(3, .int (v3 + 1)), (0, .ref 13)]) d_Reader_read_116 rfl rfl (by decide) rfl ?_
          refine ow_goto (tgt := 38) d_Reader_read_119 (by decide) ?_
          refine ow_sub [1, 0] rfl ?_
          exact T
        · replace T := T.2 c
          refine ow_aload_n 0 rfl d_Reader_read_103 ?_
          refine ow_iconst (v := 1) (by decide) d_Reader_read_104 ?_
          refine ow_callV (b := 13) (cq := 3) (As := [.int 1]) (rest := []) (d2 := d) d_Reader_read_105 l_Reader_69 v_Reader_fail (show 13 < 85 by decide) rfl (by decide) rfl (Nat.le_of_ble_eq_true rfl) (Nat.le_refl _) ⟨Nat.le_refl _, Nat.le_refl _⟩ (ow_mono T ?_)
          rintro r h' ⟨r10, I10, J10, R10, rfl, rfl, hR10, T⟩
          show ow_AW ow_Y0 (ow_Z Q) M_Reader_read (d + 1) 0 0 108 [(0, .ref 13), (3, .int v3)] [.int r10] (85, I10, J10, R10) 0 0
          exact ow_zret d_Reader_read_108 rfl T.1 T.2
      · replace T := T.2 c
        refine ow_aload_n 0 rfl d_Reader_read_64 ?_
        refine ow_gR (a := 14) 72 d_Reader_read_65 rfl rfl (by decide) rfl ⟨rfl, hR8 13 0 (by decide)⟩ ?_
        refine ow_gR (a := 15) 36 d_Reader_read_68 rfl rfl (by decide) rfl ⟨rfl, hR8 14 2 (by decide)⟩ ?_
        refine ow_gI 2 d_Reader_read_71 rfl rfl (by decide) rfl (Or.inl rfl) ?_
        refine ow_if_gt (tgt := 86) d_Reader_read_74 (by decide) (fun c => ?_) (fun c => ?_)
        · replace T := T.1 c
          refine ow_iconst (v := 1) (by decide) d_Reader_read_86 ?_
          refine ow_goto (tgt := 91) d_Reader_read_87 (by decide) ?_
          exact ow_zret d_Reader_read_91 rfl (by decide) T
        · replace T := T.2 c
          refine ow_aload_n 0 rfl d_Reader_read_77 ?_
          refine ow_bipush (v := 6) (by decide) d_Reader_read_78 ?_
          refine ow_callV (b := 13) (cq := 3) (As := [.int 6]) (rest := []) (d2 := d) d_Reader_read_80 l_Reader_69 v_Reader_fail (show 13 < 85 by decide) rfl (by decide) rfl (Nat.le_of_ble_eq_true rfl) (Nat.le_refl _) ⟨Nat.le_refl _, Nat.le_refl _⟩ (ow_mono T ?_)
          rintro r h' ⟨r11, I11, J11, R11, rfl, rfl, hR11, T⟩
          show ow_AW ow_Y0 (ow_Z Q) M_Reader_read (d + 1) 0 0 83 [(0, .ref 13), (3, .int v3)] [.int r11] (85, I11, J11, R11) 0 0
          refine ow_if_eq (tgt := 90) d_Reader_read_83 (by decide) (fun c => ?_) (fun c => ?_)
          · replace T := T.1 c
            refine ow_iconst (v := 0) (by decide) d_Reader_read_90 ?_
            exact ow_zret d_Reader_read_91 rfl (by decide) T
          · replace T := T.2 c
            refine ow_iconst (v := 1) (by decide) d_Reader_read_86 ?_
            refine ow_goto (tgt := 91) d_Reader_read_87 (by decide) ?_
            exact ow_zret d_Reader_read_91 rfl (by decide) T
    · replace T := T.2 c
      refine ow_iconst (v := 0) (by decide) d_Reader_read_52 ?_
      exact ow_zret d_Reader_read_53 rfl (by decide) T
set_option maxRecDepth 4000 in
theorem t_Reader_read {d : Nat} {I : Nat → Nat → Int32} {J : Nat → Nat → Int64} {R : Nat → Nat → Option Nat} {Q : Option Value → ow_H → Prop} {p1 : Int32}  (hR : ow_RF R) (T : (ow_AM M_Told_clear d [.ref 14] (85, I, J, R) (fun r h' => ∃ (I12 : Nat → Nat → Int32) (J12 : Nat → Nat → Int64) (R12 : Nat → Nat → Option Nat), r = none ∧ h' = (85, I12, J12, R12) ∧ ow_RF R12 ∧ (∀ (I13 : Nat → Nat → Int32), I13 = ow_u I12 13 4 0 → (∀ (I14 : Nat → Nat → Int32), I14 = ow_u I13 13 5 0 → (∀ (I15 : Nat → Nat → Int32), I15 = ow_u I14 13 6 0 → (∀ (I16 : Nat → Nat → Int32), I16 = ow_u I15 13 9 0 → (ow_AM M_Tokens_open d [.ref 25, .ref 1, .int p1] (85, I16, J12, R12) (fun r h' => ∃ (I17 : Nat → Nat → Int32) (J17 : Nat → Nat → Int64) (R17 : Nat → Nat → Option Nat), r = none ∧ h' = (85, I17, J17, R17) ∧ ow_RF R17 ∧ ow_AW ow_Y0 (ow_Z Q) M_Reader_read (d + 1) 0 0 38 [(0, .ref 13), (3, .int 0)] [] (85, I17, J17, R17) 0 0))))))))) : ow_AM M_Reader_read (d + 1) [.ref 13, .ref 1, .int p1] (85, I, J, R) Q := by
  refine ow_enter (by decide) (Nat.le_of_ble_eq_true rfl) ?_
  show ow_AW ow_Y0 (ow_Z Q) M_Reader_read (d + 1) 0 0 0 [(0, .ref 13), (1, .ref 1), (2, .int p1)] [] (85, I, J, R) 0 0
  refine ow_aload_n 0 rfl d_Reader_read_0 ?_
  refine ow_gR (a := 14) 72 d_Reader_read_1 rfl rfl (by decide) rfl ⟨rfl, hR 13 0 (by decide)⟩ ?_
  refine ow_callV (b := 14) (cq := 8) (As := []) (rest := []) (d2 := d) d_Reader_read_4 l_Reader_32 v_Told_clear (show 14 < 85 by decide) rfl (by decide) rfl (Nat.le_of_ble_eq_true rfl) (Nat.le_refl _) ⟨Nat.le_refl _, Nat.le_refl _⟩ (ow_mono T ?_)
  rintro r h' ⟨I12, J12, R12, rfl, rfl, hR12, T⟩
  show ow_AW ow_Y0 (ow_Z Q) M_Reader_read (d + 1) 0 0 7 [(0, .ref 13), (1, .ref 1), (2, .int p1)] [] (85, I12, J12, R12) 0 0
  refine ow_aload_n 0 rfl d_Reader_read_7 ?_
  refine ow_iconst (v := 0) (by decide) d_Reader_read_8 ?_
  refine ow_pZ 77 d_Reader_read_9 rfl rfl (by decide) rfl ⟨rfl, by decide⟩ rfl ?_
  obtain ⟨I13, eI13⟩ : ∃ uu, uu = ow_u I12 13 4 0 := ⟨_, rfl⟩
  replace T := T I13 eI13
  rw [← eI13]
  refine ow_aload_n 0 rfl d_Reader_read_12 ?_
  refine ow_iconst (v := 0) (by decide) d_Reader_read_13 ?_
  refine ow_pI 78 d_Reader_read_14 rfl rfl (by decide) rfl rfl rfl ?_
  obtain ⟨I14, eI14⟩ : ∃ uu, uu = ow_u I13 13 5 0 := ⟨_, rfl⟩
  replace T := T I14 eI14
  rw [← eI14]
  refine ow_aload_n 0 rfl d_Reader_read_17 ?_
  refine ow_iconst (v := 0) (by decide) d_Reader_read_18 ?_
  refine ow_pI 79 d_Reader_read_19 rfl rfl (by decide) rfl rfl rfl ?_
  obtain ⟨I15, eI15⟩ : ∃ uu, uu = ow_u I14 13 6 0 := ⟨_, rfl⟩
  replace T := T I15 eI15
  rw [← eI15]
  refine ow_aload_n 0 rfl d_Reader_read_22 ?_
  refine ow_iconst (v := 0) (by decide) d_Reader_read_23 ?_
  refine ow_pI 82 d_Reader_read_24 rfl rfl (by decide) rfl rfl rfl ?_
  obtain ⟨I16, eI16⟩ : ∃ uu, uu = ow_u I15 13 9 0 := ⟨_, rfl⟩
  replace T := T I16 eI16
  rw [← eI16]
  refine ow_aload_n 0 rfl d_Reader_read_27 ?_
  refine ow_gR (a := 25) 74 d_Reader_read_28 rfl rfl (by decide) rfl ⟨rfl, hR12 13 1 (by decide)⟩ ?_
  refine ow_aload_n 1 rfl d_Reader_read_31 ?_
  refine ow_iload_n 2 rfl d_Reader_read_32 ?_
  refine ow_callV (b := 25) (cq := 7) (As := [.ref 1, .int p1]) (rest := []) (d2 := d) d_Reader_read_33 l_Reader_49 v_Tokens_open (show 25 < 85 by decide) rfl (by decide) rfl (Nat.le_of_ble_eq_true rfl) (Nat.le_refl _) ⟨Nat.le_refl _, Nat.le_refl _⟩ (ow_mono T ?_)
  rintro r h' ⟨I17, J17, R17, rfl, rfl, hR17, T⟩
  show ow_AW ow_Y0 (ow_Z Q) M_Reader_read (d + 1) 0 0 36 [(0, .ref 13), (1, .ref 1), (2, .int p1)] [] (85, I17, J17, R17) 0 0
  refine ow_iconst (v := 0) (by decide) d_Reader_read_36 ?_
  refine ow_istore_n (ls2 := [(3, .int 0), (0, .ref 13), (1, .ref 1), (2, .int p1)]) d_Reader_read_37 (by decide) rfl ?_
  refine ow_sub [1, 0] rfl ?_
  exact T
set_option maxRecDepth 4000 in
theorem t_Reader_fail {d : Nat} {I : Nat → Nat → Int32} {J : Nat → Nat → Int64} {R : Nat → Nat → Option Nat} {Q : Option Value → ow_H → Prop} {p1 : Int32}  (hR : ow_RF R) (T : (∀ (I3 : Nat → Nat → Int32), I3 = ow_u I 13 9 p1 → (∀ (I4 : Nat → Nat → Int32), I4 = ow_u I3 13 10 (I3 25 4) → Q (some (.int 0)) (85, I4, J, R)))) : ow_AM M_Reader_fail (d + 1) [.ref 13, .int p1] (85, I, J, R) Q := by
  refine ow_enter (by decide) (Nat.le_of_ble_eq_true rfl) ?_
  show ow_AW ow_Y0 (ow_Z Q) M_Reader_fail (d + 1) 0 0 0 [(0, .ref 13), (1, .int p1)] [] (85, I, J, R) 0 0
  refine ow_aload_n 0 rfl d_Reader_fail_0 ?_
  refine ow_iload_n 1 rfl d_Reader_fail_1 ?_
  refine ow_pI 82 d_Reader_fail_2 rfl rfl (by decide) rfl rfl rfl ?_
  obtain ⟨I3, eI3⟩ : ∃ uu, uu = ow_u I 13 9 p1 := ⟨_, rfl⟩
  replace T := T I3 eI3
  rw [← eI3]
  refine ow_aload_n 0 rfl d_Reader_fail_5 ?_
  refine ow_aload_n 0 rfl d_Reader_fail_6 ?_
  refine ow_gR (a := 25) 74 d_Reader_fail_7 rfl rfl (by decide) rfl ⟨rfl, hR 13 1 (by decide)⟩ ?_
  refine ow_gI 70 d_Reader_fail_10 rfl rfl (by decide) rfl (Or.inl rfl) ?_
  refine ow_pI 84 d_Reader_fail_13 rfl rfl (by decide) rfl rfl rfl ?_
  obtain ⟨I4, eI4⟩ : ∃ uu, uu = ow_u I3 13 10 (I3 25 4) := ⟨_, rfl⟩
  replace T := T I4 eI4
  rw [← eI4]
  refine ow_iconst (v := 0) (by decide) d_Reader_fail_16 ?_
  exact ow_zret d_Reader_fail_17 rfl (by decide) T
set_option maxRecDepth 4000 in
theorem t_Reader_readLine {d : Nat} {I : Nat → Nat → Int32} {J : Nat → Nat → Int64} {R : Nat → Nat → Option Nat} {Q : Option Value → ow_H → Prop}   (hR : ow_RF R) (hTx : R 25 0 = some 1) (T : (ow_AM M_Reader_lineOf d [.ref 13] (85, I, J, R) (fun r h' => ∃ (r11 : Int32) (I11 : Nat → Nat → Int32) (J11 : Nat → Nat → Int64) (R11 : Nat → Nat → Option Nat), r = some (.int r11) ∧ h' = (85, I11, J11, R11) ∧ ow_RF R11 ∧ R11 25 0 = some 1 ∧ ((¬ r11 = 0 → ((¬ r11 = 1 → ((¬ (I11 13 4) = 0 → ((r11 = 2 → (ow_AM M_Reader_readFolly d [.ref 13] (85, I11, J11, R11) (fun r h' => ∃ (r12 : Int32) (I12 : Nat → Nat → Int32) (J12 : Nat → Nat → Int64) (R12 : Nat → Nat → Option Nat), r = some (.int r12) ∧ h' = (85, I12, J12, R12) ∧ ow_RF R12 ∧ R12 25 0 = some 1 ∧ ((r12 = 0 ∨ r12 = 1) ∧ Q (some (.int r12)) (85, I12, J12, R12))))) ∧ ((r11 = 3 → (ow_AM M_Reader_readSends d [.ref 13] (85, I11, J11, R11) (fun r h' => ∃ (r13 : Int32) (I13 : Nat → Nat → Int32) (J13 : Nat → Nat → Int64) (R13 : Nat → Nat → Option Nat), r = some (.int r13) ∧ h' = (85, I13, J13, R13) ∧ ow_RF R13 ∧ R13 25 0 = some 1 ∧ ((r13 = 0 ∨ r13 = 1) ∧ Q (some (.int r13)) (85, I13, J13, R13))))) ∧ ((r11 = 4 → (ow_AM M_Reader_readHermit d [.ref 13] (85, I11, J11, R11) (fun r h' => ∃ (r14 : Int32) (I14 : Nat → Nat → Int32) (J14 : Nat → Nat → Int64) (R14 : Nat → Nat → Option Nat), r = some (.int r14) ∧ h' = (85, I14, J14, R14) ∧ ow_RF R14 ∧ R14 25 0 = some 1 ∧ ((r14 = 0 ∨ r14 = 1) ∧ Q (some (.int r14)) (85, I14, J14, R14))))) ∧ ((r11 = 5 → (ow_AM M_Reader_readEstate d [.ref 13] (85, I11, J11, R11) (fun r h' => ∃ (r15 : Int32) (I15 : Nat → Nat → Int32) (J15 : Nat → Nat → Int64) (R15 : Nat → Nat → Option Nat), r = some (.int r15) ∧ h' = (85, I15, J15, R15) ∧ ow_RF R15 ∧ R15 25 0 = some 1 ∧ ((r15 = 0 ∨ r15 = 1) ∧ Q (some (.int r15)) (85, I15, J15, R15))))) ∧ ((r11 = 6 → (ow_AM M_Reader_readVeiled d [.ref 13] (85, I11, J11, R11) (fun r h' => ∃ (r16 : Int32) (I16 : Nat → Nat → Int32) (J16 : Nat → Nat → Int64) (R16 : Nat → Nat → Option Nat), r = some (.int r16) ∧ h' = (85, I16, J16, R16) ∧ ow_RF R16 ∧ R16 25 0 = some 1 ∧ ((r16 = 0 ∨ r16 = 1) ∧ Q (some (.int r16)) (85, I16, J16, R16))))) ∧ (¬ r11 = 2 ∧ ¬ r11 = 3 ∧ ¬ r11 = 4 ∧ ¬ r11 = 5 ∧ ¬ r11 = 6 → (ow_AM M_Reader_readSigned d [.ref 13] (85, I11, J11, R11) (fun r h' => ∃ (r17 : Int32) (I17 : Nat → Nat → Int32) (J17 : Nat → Nat → Int64) (R17 : Nat → Nat → Option Nat), r = some (.int r17) ∧ h' = (85, I17, J17, R17) ∧ ow_RF R17 ∧ R17 25 0 = some 1 ∧ ((r17 = 0 ∨ r17 = 1) ∧ Q (some (.int r17)) (85, I17, J17, R17))))))))))) ∧ ((I11 13 4) = 0 → (ow_AM M_Reader_fail d [.ref 13, .int 6] (85, I11, J11, R11) (fun r h' => ∃ (r18 : Int32) (I18 : Nat → Nat → Int32) (J18 : Nat → Nat → Int64) (R18 : Nat → Nat → Option Nat), r = some (.int r18) ∧ h' = (85, I18, J18, R18) ∧ ow_RF R18 ∧ R18 25 0 = some 1 ∧ ((r18 = 0 ∨ r18 = 1) ∧ Q (some (.int r18)) (85, I18, J18, R18))))))) ∧ (r11 = 1 → (ow_AM M_Reader_readShire d [.ref 13] (85, I11, J11, R11) (fun r h' => ∃ (r19 : Int32) (I19 : Nat → Nat → Int32) (J19 : Nat → Nat → Int64) (R19 : Nat → Nat → Option Nat), r = some (.int r19) ∧ h' = (85, I19, J19, R19) ∧ ow_RF R19 ∧ R19 25 0 = some 1 ∧ ((r19 = 0 ∨ r19 = 1) ∧ Q (some (.int r19)) (85, I19, J19, R19))))))) ∧ (r11 = 0 → (ow_AM M_Reader_fail d [.ref 13, .int 1] (85, I11, J11, R11) (fun r h' => ∃ (r20 : Int32) (I20 : Nat → Nat → Int32) (J20 : Nat → Nat → Int64) (R20 : Nat → Nat → Option Nat), r = some (.int r20) ∧ h' = (85, I20, J20, R20) ∧ ow_RF R20 ∧ R20 25 0 = some 1 ∧ ((r20 = 0 ∨ r20 = 1) ∧ Q (some (.int r20)) (85, I20, J20, R20))))))))) : ow_AM M_Reader_readLine (d + 1) [.ref 13] (85, I, J, R) Q := by
  refine ow_enter (by decide) (Nat.le_of_ble_eq_true rfl) ?_
  show ow_AW ow_Y0 (ow_Z Q) M_Reader_readLine (d + 1) 0 0 0 [(0, .ref 13)] [] (85, I, J, R) 0 0
  refine ow_aload_n 0 rfl d_Reader_readLine_0 ?_
  refine ow_callV (b := 13) (cq := 3) (As := []) (rest := []) (d2 := d) d_Reader_readLine_1 l_Reader_80 v_Reader_lineOf (show 13 < 85 by decide) rfl (by decide) rfl (Nat.le_of_ble_eq_true rfl) (Nat.le_refl _) ⟨Nat.le_refl _, Nat.le_refl _⟩ (ow_mono T ?_)
  rintro r h' ⟨r11, I11, J11, R11, rfl, rfl, hR11, hTx, T⟩
  show ow_AW ow_Y0 (ow_Z Q) M_Reader_readLine (d + 1) 0 0 4 [(0, .ref 13)] [.int r11] (85, I11, J11, R11) 0 0
  refine ow_istore_n (ls2 := [(1, .int r11), (0, .ref 13)]) d_Reader_readLine_4 (by decide) rfl ?_
  refine ow_iload_n 0 rfl d_Reader_readLine_5 ?_
  refine ow_if_ne (tgt := 15) d_Reader_readLine_6 (by decide) (fun c => ?_) (fun c => ?_)
  · replace T := T.1 c
    refine ow_iload_n 0 rfl d_Reader_readLine_15 ?_
    refine ow_iconst (v := 1) (by decide) d_Reader_readLine_16 ?_
    refine ow_icmp_ne (tgt := 25) d_Reader_readLine_17 (by decide) (fun c => ?_) (fun c => ?_)
    · replace T := T.1 c
      refine ow_aload_n 1 rfl d_Reader_readLine_25 ?_
      refine ow_gI 77 d_Reader_readLine_26 rfl rfl (by decide) rfl (Or.inr rfl) ?_
      refine ow_if_ne (tgt := 39) d_Reader_readLine_29 (by decide) (fun c => ?_) (fun c => ?_)
      · replace T := T.1 c
        refine ow_iload_n 0 rfl d_Reader_readLine_39 ?_
        by_cases c0 : r11 = 2
        · replace T := T.1 c0
          refine ow_tabIn (off := 36) (tgt := 76) d_Reader_readLine_40 (by rw [c0]; decide) (by rw [c0]; decide) (by rw [c0]; rfl) (by decide) ?_
          refine ow_aload_n 1 rfl d_Reader_readLine_76 ?_
          refine ow_callV (b := 13) (cq := 3) (As := []) (rest := []) (d2 := d) d_Reader_readLine_77 l_Reader_87 v_Reader_readFolly (show 13 < 85 by decide) rfl (by decide) rfl (Nat.le_of_ble_eq_true rfl) (Nat.le_refl _) ⟨Nat.le_refl _, Nat.le_refl _⟩ (ow_mono T ?_)
          rintro r h' ⟨r12, I12, J12, R12, rfl, rfl, hR12, hTx, T⟩
          show ow_AW ow_Y0 (ow_Z Q) M_Reader_readLine (d + 1) 0 0 80 [(1, .int r11), (0, .ref 13)] [.int r12] (85, I12, J12, R12) 0 0
          exact ow_zret d_Reader_readLine_80 rfl T.1 T.2
        replace T := T.2
        by_cases c1 : r11 = 3
        · replace T := T.1 c1
          refine ow_tabIn (off := 41) (tgt := 81) d_Reader_readLine_40 (by rw [c1]; decide) (by rw [c1]; decide) (by rw [c1]; rfl) (by decide) ?_
          refine ow_aload_n 1 rfl d_Reader_readLine_81 ?_
          refine ow_callV (b := 13) (cq := 3) (As := []) (rest := []) (d2 := d) d_Reader_readLine_82 l_Reader_90 v_Reader_readSends (show 13 < 85 by decide) rfl (by decide) rfl (Nat.le_of_ble_eq_true rfl) (Nat.le_refl _) ⟨Nat.le_refl _, Nat.le_refl _⟩ (ow_mono T ?_)
          rintro r h' ⟨r13, I13, J13, R13, rfl, rfl, hR13, hTx, T⟩
          show ow_AW ow_Y0 (ow_Z Q) M_Reader_readLine (d + 1) 0 0 85 [(1, .int r11), (0, .ref 13)] [.int r13] (85, I13, J13, R13) 0 0
          exact ow_zret d_Reader_readLine_85 rfl T.1 T.2
        replace T := T.2
        by_cases c2 : r11 = 4
        · replace T := T.1 c2
          refine ow_tabIn (off := 46) (tgt := 86) d_Reader_readLine_40 (by rw [c2]; decide) (by rw [c2]; decide) (by rw [c2]; rfl) (by decide) ?_
          refine ow_aload_n 1 rfl d_Reader_readLine_86 ?_
          refine ow_callV (b := 13) (cq := 3) (As := []) (rest := []) (d2 := d) d_Reader_readLine_87 l_Reader_93 v_Reader_readHermit (show 13 < 85 by decide) rfl (by decide) rfl (Nat.le_of_ble_eq_true rfl) (Nat.le_refl _) ⟨Nat.le_refl _, Nat.le_refl _⟩ (ow_mono T ?_)
          rintro r h' ⟨r14, I14, J14, R14, rfl, rfl, hR14, hTx, T⟩
          show ow_AW ow_Y0 (ow_Z Q) M_Reader_readLine (d + 1) 0 0 90 [(1, .int r11), (0, .ref 13)] [.int r14] (85, I14, J14, R14) 0 0
          exact ow_zret d_Reader_readLine_90 rfl T.1 T.2
        replace T := T.2
        by_cases c3 : r11 = 5
        · replace T := T.1 c3
          refine ow_tabIn (off := 51) (tgt := 91) d_Reader_readLine_40 (by rw [c3]; decide) (by rw [c3]; decide) (by rw [c3]; rfl) (by decide) ?_
          refine ow_aload_n 1 rfl d_Reader_readLine_91 ?_
          refine ow_callV (b := 13) (cq := 3) (As := []) (rest := []) (d2 := d) d_Reader_readLine_92 l_Reader_96 v_Reader_readEstate (show 13 < 85 by decide) rfl (by decide) rfl (Nat.le_of_ble_eq_true rfl) (Nat.le_refl _) ⟨Nat.le_refl _, Nat.le_refl _⟩ (ow_mono T ?_)
          rintro r h' ⟨r15, I15, J15, R15, rfl, rfl, hR15, hTx, T⟩
          show ow_AW ow_Y0 (ow_Z Q) M_Reader_readLine (d + 1) 0 0 95 [(1, .int r11), (0, .ref 13)] [.int r15] (85, I15, J15, R15) 0 0
          exact ow_zret d_Reader_readLine_95 rfl T.1 T.2
        replace T := T.2
        by_cases c4 : r11 = 6
        · replace T := T.1 c4
          refine ow_tabIn (off := 56) (tgt := 96) d_Reader_readLine_40 (by rw [c4]; decide) (by rw [c4]; decide) (by rw [c4]; rfl) (by decide) ?_
          refine ow_aload_n 1 rfl d_Reader_readLine_96 ?_
          refine ow_callV (b := 13) (cq := 3) (As := []) (rest := []) (d2 := d) d_Reader_readLine_97 l_Reader_99 v_Reader_readVeiled (show 13 < 85 by decide) rfl (by decide) rfl (Nat.le_of_ble_eq_true rfl) (Nat.le_refl _) ⟨Nat.le_refl _, Nat.le_refl _⟩ (ow_mono T ?_)
          rintro r h' ⟨r16, I16, J16, R16, rfl, rfl, hR16, hTx, T⟩
          show ow_AW ow_Y0 (ow_Z Q) M_Reader_readLine (d + 1) 0 0 100 [(1, .int r11), (0, .ref 13)] [.int r16] (85, I16, J16, R16) 0 0
          exact ow_zret d_Reader_readLine_100 rfl T.1 T.2
        replace T := T.2
        replace T := T ⟨c0, c1, c2, c3, c4⟩
        replace c0 := ow_ne (z := 2) c0 rfl
        replace c1 := ow_ne (z := 3) c1 rfl
        replace c2 := ow_ne (z := 4) c2 rfl
        replace c3 := ow_ne (z := 5) c3 rfl
        replace c4 := ow_ne (z := 6) c4 rfl
        refine ow_tabOut (tgt := 101) d_Reader_readLine_40 (by omega) (by decide) ?_
        refine ow_aload_n 1 rfl d_Reader_readLine_101 ?_
        refine ow_callV (b := 13) (cq := 3) (As := []) (rest := []) (d2 := d) d_Reader_readLine_102 l_Reader_102 v_Reader_readSigned (show 13 < 85 by decide) rfl (by decide) rfl (Nat.le_of_ble_eq_true rfl) (Nat.le_refl _) ⟨Nat.le_refl _, Nat.le_refl _⟩ (ow_mono T ?_)
        rintro r h' ⟨r17, I17, J17, R17, rfl, rfl, hR17, hTx, T⟩
        show ow_AW ow_Y0 (ow_Z Q) M_Reader_readLine (d + 1) 0 0 105 [(1, .int r11), (0, .ref 13)] [.int r17] (85, I17, J17, R17) 0 0
        exact ow_zret d_Reader_readLine_105 rfl T.1 T.2
      · replace T := T.2 c
        refine ow_aload_n 1 rfl d_Reader_readLine_32 ?_
        refine ow_bipush (v := 6) (by decide) d_Reader_readLine_33 ?_
        refine ow_callV (b := 13) (cq := 3) (As := [.int 6]) (rest := []) (d2 := d) d_Reader_readLine_35 l_Reader_69 v_Reader_fail (show 13 < 85 by decide) rfl (by decide) rfl (Nat.le_of_ble_eq_true rfl) (Nat.le_refl _) ⟨Nat.le_refl _, Nat.le_refl _⟩ (ow_mono T ?_)
        rintro r h' ⟨r18, I18, J18, R18, rfl, rfl, hR18, hTx, T⟩
        show ow_AW ow_Y0 (ow_Z Q) M_Reader_readLine (d + 1) 0 0 38 [(1, .int r11), (0, .ref 13)] [.int r18] (85, I18, J18, R18) 0 0
        exact ow_zret d_Reader_readLine_38 rfl T.1 T.2
    · replace T := T.2 c
      refine ow_aload_n 1 rfl d_Reader_readLine_20 ?_
      refine ow_callV (b := 13) (cq := 3) (As := []) (rest := []) (d2 := d) d_Reader_readLine_21 l_Reader_84 v_Reader_readShire (show 13 < 85 by decide) rfl (by decide) rfl (Nat.le_of_ble_eq_true rfl) (Nat.le_refl _) ⟨Nat.le_refl _, Nat.le_refl _⟩ (ow_mono T ?_)
      rintro r h' ⟨r19, I19, J19, R19, rfl, rfl, hR19, hTx, T⟩
      show ow_AW ow_Y0 (ow_Z Q) M_Reader_readLine (d + 1) 0 0 24 [(1, .int r11), (0, .ref 13)] [.int r19] (85, I19, J19, R19) 0 0
      exact ow_zret d_Reader_readLine_24 rfl T.1 T.2
  · replace T := T.2 c
    refine ow_aload_n 1 rfl d_Reader_readLine_9 ?_
    refine ow_iconst (v := 1) (by decide) d_Reader_readLine_10 ?_
    refine ow_callV (b := 13) (cq := 3) (As := [.int 1]) (rest := []) (d2 := d) d_Reader_readLine_11 l_Reader_69 v_Reader_fail (show 13 < 85 by decide) rfl (by decide) rfl (Nat.le_of_ble_eq_true rfl) (Nat.le_refl _) ⟨Nat.le_refl _, Nat.le_refl _⟩ (ow_mono T ?_)
    rintro r h' ⟨r20, I20, J20, R20, rfl, rfl, hR20, hTx, T⟩
    show ow_AW ow_Y0 (ow_Z Q) M_Reader_readLine (d + 1) 0 0 14 [(1, .int r11), (0, .ref 13)] [.int r20] (85, I20, J20, R20) 0 0
    exact ow_zret d_Reader_readLine_14 rfl T.1 T.2
set_option maxRecDepth 4000 in
theorem t_Reader_lineOf {d : Nat} {I : Nat → Nat → Int32} {J : Nat → Nat → Int64} {R : Nat → Nat → Option Nat} {Q : Option Value → ow_H → Prop}   (hR : ow_RF R) (hTx : R 25 0 = some 1) (T : (ow_AM M_Tokens_isWord d [.ref 25, .ref (1000 + 0)] (85, I, J, R) (fun r h' => ∃ (r8 : Int32) (I8 : Nat → Nat → Int32) (J8 : Nat → Nat → Int64) (R8 : Nat → Nat → Option Nat), r = some (.int r8) ∧ h' = (85, I8, J8, R8) ∧ ow_RF R8 ∧ R8 25 0 = some 1 ∧ ((r8 = 0 → (ow_AM M_Tokens_isWord d [.ref 25, .ref (1000 + 1)] (85, I8, J8, R8) (fun r h' => ∃ (r9 : Int32) (I9 : Nat → Nat → Int32) (J9 : Nat → Nat → Int64) (R9 : Nat → Nat → Option Nat), r = some (.int r9) ∧ h' = (85, I9, J9, R9) ∧ ow_RF R9 ∧ R9 25 0 = some 1 ∧ ((r9 = 0 → (ow_AM M_Tokens_isWord d [.ref 25, .ref (1000 + 2)] (85, I9, J9, R9) (fun r h' => ∃ (r10 : Int32) (I10 : Nat → Nat → Int32) (J10 : Nat → Nat → Int64) (R10 : Nat → Nat → Option Nat), r = some (.int r10) ∧ h' = (85, I10, J10, R10) ∧ ow_RF R10 ∧ R10 25 0 = some 1 ∧ ((r10 = 0 → (ow_AM M_Tokens_isWord d [.ref 25, .ref (1000 + 3)] (85, I10, J10, R10) (fun r h' => ∃ (r11 : Int32) (I11 : Nat → Nat → Int32) (J11 : Nat → Nat → Int64) (R11 : Nat → Nat → Option Nat), r = some (.int r11) ∧ h' = (85, I11, J11, R11) ∧ ow_RF R11 ∧ R11 25 0 = some 1 ∧ ((r11 = 0 → (ow_AM M_Tokens_isWord d [.ref 25, .ref (1000 + 4)] (85, I11, J11, R11) (fun r h' => ∃ (r12 : Int32) (I12 : Nat → Nat → Int32) (J12 : Nat → Nat → Int64) (R12 : Nat → Nat → Option Nat), r = some (.int r12) ∧ h' = (85, I12, J12, R12) ∧ ow_RF R12 ∧ R12 25 0 = some 1 ∧ ((r12 = 0 → (ow_AM M_Tokens_isWord d [.ref 25, .ref (1000 + 5)] (85, I12, J12, R12) (fun r h' => ∃ (r13 : Int32) (I13 : Nat → Nat → Int32) (J13 : Nat → Nat → Int64) (R13 : Nat → Nat → Option Nat), r = some (.int r13) ∧ h' = (85, I13, J13, R13) ∧ ow_RF R13 ∧ R13 25 0 = some 1 ∧ ((r13 = 0 → (ow_AM M_Tokens_isWord d [.ref 25, .ref (1000 + 6)] (85, I13, J13, R13) (fun r h' => ∃ (r14 : Int32) (I14 : Nat → Nat → Int32) (J14 : Nat → Nat → Int64) (R14 : Nat → Nat → Option Nat), r = some (.int r14) ∧ h' = (85, I14, J14, R14) ∧ ow_RF R14 ∧ R14 25 0 = some 1 ∧ ((r14 = 0 → Q (some (.int 0)) (85, I14, J14, R14)) ∧ (¬ r14 = 0 → Q (some (.int 7)) (85, I14, J14, R14)))))) ∧ (¬ r13 = 0 → Q (some (.int 6)) (85, I13, J13, R13)))))) ∧ (¬ r12 = 0 → Q (some (.int 5)) (85, I12, J12, R12)))))) ∧ (¬ r11 = 0 → Q (some (.int 4)) (85, I11, J11, R11)))))) ∧ (¬ r10 = 0 → Q (some (.int 3)) (85, I10, J10, R10)))))) ∧ (¬ r9 = 0 → Q (some (.int 2)) (85, I9, J9, R9)))))) ∧ (¬ r8 = 0 → Q (some (.int 1)) (85, I8, J8, R8)))))) : ow_AM M_Reader_lineOf (d + 1) [.ref 13] (85, I, J, R) Q := by
  refine ow_enter (by decide) (Nat.le_of_ble_eq_true rfl) ?_
  show ow_AW ow_Y0 (ow_Z Q) M_Reader_lineOf (d + 1) 0 0 0 [(0, .ref 13)] [] (85, I, J, R) 0 0
  refine ow_aload_n 0 rfl d_Reader_lineOf_0 ?_
  refine ow_gR (a := 25) 74 d_Reader_lineOf_1 rfl rfl (by decide) rfl ⟨rfl, hR 13 1 (by decide)⟩ ?_
  refine ow_ldS (tx := "shire") (i := 0) 0 d_Reader_lineOf_4 rfl ?_
  refine ow_callV (b := 25) (cq := 7) (As := [.ref (1000 + 0)]) (rest := []) (d2 := d) d_Reader_lineOf_6 l_Reader_107 v_Tokens_isWord (show 25 < 85 by decide) rfl (by decide) rfl (Nat.le_of_ble_eq_true rfl) (Nat.le_refl _) ⟨Nat.le_refl _, Nat.le_refl _⟩ (ow_mono T ?_)
  rintro r h' ⟨r8, I8, J8, R8, rfl, rfl, hR8, hTx, T⟩
  show ow_AW ow_Y0 (ow_Z Q) M_Reader_lineOf (d + 1) 0 0 9 [(0, .ref 13)] [.int r8] (85, I8, J8, R8) 0 0
  refine ow_if_eq (tgt := 14) d_Reader_lineOf_9 (by decide) (fun c => ?_) (fun c => ?_)
  · replace T := T.1 c
    refine ow_aload_n 0 rfl d_Reader_lineOf_14 ?_
    refine ow_gR (a := 25) 74 d_Reader_lineOf_15 rfl rfl (by decide) rfl ⟨rfl, hR8 13 1 (by decide)⟩ ?_
    refine ow_ldS (tx := "folly") (i := 1) 1 d_Reader_lineOf_18 rfl ?_
    refine ow_callV (b := 25) (cq := 7) (As := [.ref (1000 + 1)]) (rest := []) (d2 := d) d_Reader_lineOf_20 l_Reader_107 v_Tokens_isWord (show 25 < 85 by decide) rfl (by decide) rfl (Nat.le_of_ble_eq_true rfl) (Nat.le_refl _) ⟨Nat.le_refl _, Nat.le_refl _⟩ (ow_mono T ?_)
    rintro r h' ⟨r9, I9, J9, R9, rfl, rfl, hR9, hTx, T⟩
    show ow_AW ow_Y0 (ow_Z Q) M_Reader_lineOf (d + 1) 0 0 23 [(0, .ref 13)] [.int r9] (85, I9, J9, R9) 0 0
    refine ow_if_eq (tgt := 28) d_Reader_lineOf_23 (by decide) (fun c => ?_) (fun c => ?_)
    · replace T := T.1 c
      refine ow_aload_n 0 rfl d_Reader_lineOf_28 ?_
      refine ow_gR (a := 25) 74 d_Reader_lineOf_29 rfl rfl (by decide) rfl ⟨rfl, hR9 13 1 (by decide)⟩ ?_
      refine ow_ldS (tx := "sends") (i := 2) 2 d_Reader_lineOf_32 rfl ?_
      refine ow_callV (b := 25) (cq := 7) (As := [.ref (1000 + 2)]) (rest := []) (d2 := d) d_Reader_lineOf_34 l_Reader_107 v_Tokens_isWord (show 25 < 85 by decide) rfl (by decide) rfl (Nat.le_of_ble_eq_true rfl) (Nat.le_refl _) ⟨Nat.le_refl _, Nat.le_refl _⟩ (ow_mono T ?_)
      rintro r h' ⟨r10, I10, J10, R10, rfl, rfl, hR10, hTx, T⟩
      show ow_AW ow_Y0 (ow_Z Q) M_Reader_lineOf (d + 1) 0 0 37 [(0, .ref 13)] [.int r10] (85, I10, J10, R10) 0 0
      refine ow_if_eq (tgt := 42) d_Reader_lineOf_37 (by decide) (fun c => ?_) (fun c => ?_)
      · replace T := T.1 c
        refine ow_aload_n 0 rfl d_Reader_lineOf_42 ?_
        refine ow_gR (a := 25) 74 d_Reader_lineOf_43 rfl rfl (by decide) rfl ⟨rfl, hR10 13 1 (by decide)⟩ ?_
        refine ow_ldS (tx := "hermit") (i := 3) 3 d_Reader_lineOf_46 rfl ?_
        refine ow_callV (b := 25) (cq := 7) (As := [.ref (1000 + 3)]) (rest := []) (d2 := d) d_Reader_lineOf_48 l_Reader_107 v_Tokens_isWord (show 25 < 85 by decide) rfl (by decide) rfl (Nat.le_of_ble_eq_true rfl) (Nat.le_refl _) ⟨Nat.le_refl _, Nat.le_refl _⟩ (ow_mono T ?_)
        rintro r h' ⟨r11, I11, J11, R11, rfl, rfl, hR11, hTx, T⟩
        show ow_AW ow_Y0 (ow_Z Q) M_Reader_lineOf (d + 1) 0 0 51 [(0, .ref 13)] [.int r11] (85, I11, J11, R11) 0 0
        refine ow_if_eq (tgt := 56) d_Reader_lineOf_51 (by decide) (fun c => ?_) (fun c => ?_)
        · replace T := T.1 c
          refine ow_aload_n 0 rfl d_Reader_lineOf_56 ?_
          refine ow_gR (a := 25) 74 d_Reader_lineOf_57 rfl rfl (by decide) rfl ⟨rfl, hR11 13 1 (by decide)⟩ ?_
          refine ow_ldS (tx := "estate") (i := 4) 4 d_Reader_lineOf_60 rfl ?_
          refine ow_callV (b := 25) (cq := 7) (As := [.ref (1000 + 4)]) (rest := []) (d2 := d) d_Reader_lineOf_62 l_Reader_107 v_Tokens_isWord (show 25 < 85 by decide) rfl (by decide) rfl (Nat.le_of_ble_eq_true rfl) (Nat.le_refl _) ⟨Nat.le_refl _, Nat.le_refl _⟩ (ow_mono T ?_)
          rintro r h' ⟨r12, I12, J12, R12, rfl, rfl, hR12, hTx, T⟩
          show ow_AW ow_Y0 (ow_Z Q) M_Reader_lineOf (d + 1) 0 0 65 [(0, .ref 13)] [.int r12] (85, I12, J12, R12) 0 0
          refine ow_if_eq (tgt := 70) d_Reader_lineOf_65 (by decide) (fun c => ?_) (fun c => ?_)
          · replace T := T.1 c
            refine ow_aload_n 0 rfl d_Reader_lineOf_70 ?_
            refine ow_gR (a := 25) 74 d_Reader_lineOf_71 rfl rfl (by decide) rfl ⟨rfl, hR12 13 1 (by decide)⟩ ?_
            refine ow_ldS (tx := "veiled") (i := 5) 5 d_Reader_lineOf_74 rfl ?_
            refine ow_callV (b := 25) (cq := 7) (As := [.ref (1000 + 5)]) (rest := []) (d2 := d) d_Reader_lineOf_76 l_Reader_107 v_Tokens_isWord (show 25 < 85 by decide) rfl (by decide) rfl (Nat.le_of_ble_eq_true rfl) (Nat.le_refl _) ⟨Nat.le_refl _, Nat.le_refl _⟩ (ow_mono T ?_)
            rintro r h' ⟨r13, I13, J13, R13, rfl, rfl, hR13, hTx, T⟩
            show ow_AW ow_Y0 (ow_Z Q) M_Reader_lineOf (d + 1) 0 0 79 [(0, .ref 13)] [.int r13] (85, I13, J13, R13) 0 0
            refine ow_if_eq (tgt := 85) d_Reader_lineOf_79 (by decide) (fun c => ?_) (fun c => ?_)
            · replace T := T.1 c
              refine ow_aload_n 0 rfl d_Reader_lineOf_85 ?_
              refine ow_gR (a := 25) 74 d_Reader_lineOf_86 rfl rfl (by decide) rfl ⟨rfl, hR13 13 1 (by decide)⟩ ?_
              refine ow_ldS (tx := "signed") (i := 6) 6 d_Reader_lineOf_89 rfl ?_
              refine ow_callV (b := 25) (cq := 7) (As := [.ref (1000 + 6)]) (rest := []) (d2 := d) d_Reader_lineOf_91 l_Reader_107 v_Tokens_isWord (show 25 < 85 by decide) rfl (by decide) rfl (Nat.le_of_ble_eq_true rfl) (Nat.le_refl _) ⟨Nat.le_refl _, Nat.le_refl _⟩ (ow_mono T ?_)
              rintro r h' ⟨r14, I14, J14, R14, rfl, rfl, hR14, hTx, T⟩
              show ow_AW ow_Y0 (ow_Z Q) M_Reader_lineOf (d + 1) 0 0 94 [(0, .ref 13)] [.int r14] (85, I14, J14, R14) 0 0
              refine ow_if_eq (tgt := 102) d_Reader_lineOf_94 (by decide) (fun c => ?_) (fun c => ?_)
              · replace T := T.1 c
                refine ow_iconst (v := 0) (by decide) d_Reader_lineOf_102 ?_
                exact ow_iret d_Reader_lineOf_103 rfl T
              · replace T := T.2 c
                refine ow_bipush (v := 7) (by decide) d_Reader_lineOf_97 ?_
                refine ow_goto (tgt := 103) d_Reader_lineOf_99 (by decide) ?_
                exact ow_iret d_Reader_lineOf_103 rfl T
            · replace T := T.2 c
              refine ow_bipush (v := 6) (by decide) d_Reader_lineOf_82 ?_
              exact ow_iret d_Reader_lineOf_84 rfl T
          · replace T := T.2 c
            refine ow_iconst (v := 5) (by decide) d_Reader_lineOf_68 ?_
            exact ow_iret d_Reader_lineOf_69 rfl T
        · replace T := T.2 c
          refine ow_iconst (v := 4) (by decide) d_Reader_lineOf_54 ?_
          exact ow_iret d_Reader_lineOf_55 rfl T
      · replace T := T.2 c
        refine ow_iconst (v := 3) (by decide) d_Reader_lineOf_40 ?_
        exact ow_iret d_Reader_lineOf_41 rfl T
    · replace T := T.2 c
      refine ow_iconst (v := 2) (by decide) d_Reader_lineOf_26 ?_
      exact ow_iret d_Reader_lineOf_27 rfl T
  · replace T := T.2 c
    refine ow_iconst (v := 1) (by decide) d_Reader_lineOf_12 ?_
    exact ow_iret d_Reader_lineOf_13 rfl T
set_option maxRecDepth 4000 in
theorem t_Reader_readShire {d : Nat} {I : Nat → Nat → Int32} {J : Nat → Nat → Int64} {R : Nat → Nat → Option Nat} {Q : Option Value → ow_H → Prop}   (hR : ow_RF R) (hTx : R 25 0 = some 1) (T : (((I 13 4) = 0 → (∀ (I10 : Nat → Nat → Int32), I10 = ow_u I 13 4 1 → (ow_AM M_Tokens_advance d [.ref 25] (85, I10, J, R) (fun r h' => ∃ (I11 : Nat → Nat → Int32) (J11 : Nat → Nat → Int64) (R11 : Nat → Nat → Option Nat), r = none ∧ h' = (85, I11, J11, R11) ∧ ow_RF R11 ∧ R11 25 0 = some 1 ∧ (ow_AM M_Reader_passWord d [.ref 13, .ref (1000 + 7)] (85, I11, J11, R11) (fun r h' => ∃ (r12 : Int32) (I12 : Nat → Nat → Int32) (J12 : Nat → Nat → Int64) (R12 : Nat → Nat → Option Nat), r = some (.int r12) ∧ h' = (85, I12, J12, R12) ∧ ow_RF R12 ∧ R12 25 0 = some 1 ∧ ((r12 = 0 → Q (some (.int 0)) (85, I12, J12, R12)) ∧ (¬ r12 = 0 → (ow_AM M_Reader_takeWhole d [.ref 13, .int 100] (85, I12, J12, R12) (fun r h' => ∃ (r13 : Int32) (I13 : Nat → Nat → Int32) (J13 : Nat → Nat → Int64) (R13 : Nat → Nat → Option Nat), r = some (.int r13) ∧ h' = (85, I13, J13, R13) ∧ ow_RF R13 ∧ R13 25 0 = some 1 ∧ ((¬ r13 = 0 → (∀ (I14 : Nat → Nat → Int32), I14 = ow_u I13 14 0 (I13 13 8) → (ow_AM M_Reader_passWord d [.ref 13, .ref (1000 + 8)] (85, I14, J13, R13) (fun r h' => ∃ (r15 : Int32) (I15 : Nat → Nat → Int32) (J15 : Nat → Nat → Int64) (R15 : Nat → Nat → Option Nat), r = some (.int r15) ∧ h' = (85, I15, J15, R15) ∧ ow_RF R15 ∧ R15 25 0 = some 1 ∧ ((r15 = 0 → Q (some (.int 0)) (85, I15, J15, R15)) ∧ (¬ r15 = 0 → (ow_AM M_Reader_takeWhole d [.ref 13, .int 9] (85, I15, J15, R15) (fun r h' => ∃ (r16 : Int32) (I16 : Nat → Nat → Int32) (J16 : Nat → Nat → Int64) (R16 : Nat → Nat → Option Nat), r = some (.int r16) ∧ h' = (85, I16, J16, R16) ∧ ow_RF R16 ∧ R16 25 0 = some 1 ∧ ((¬ r16 = 0 → (∀ (I17 : Nat → Nat → Int32), I17 = ow_u I16 14 1 (I16 13 8) → Q (some (.int 1)) (85, I17, J16, R16))) ∧ (r16 = 0 → Q (some (.int 0)) (85, I16, J16, R16))))))))))) ∧ (r13 = 0 → Q (some (.int 0)) (85, I13, J13, R13))))))))))))) ∧ (¬ (I 13 4) = 0 → (ow_AM M_Reader_fail d [.ref 13, .int 3] (85, I, J, R) (fun r h' => ∃ (r18 : Int32) (I18 : Nat → Nat → Int32) (J18 : Nat → Nat → Int64) (R18 : Nat → Nat → Option Nat), r = some (.int r18) ∧ h' = (85, I18, J18, R18) ∧ ow_RF R18 ∧ R18 25 0 = some 1 ∧ ((r18 = 0 ∨ r18 = 1) ∧ Q (some (.int r18)) (85, I18, J18, R18))))))) : ow_AM M_Reader_readShire (d + 1) [.ref 13] (85, I, J, R) Q := by
  refine ow_enter (by decide) (Nat.le_of_ble_eq_true rfl) ?_
  show ow_AW ow_Y0 (ow_Z Q) M_Reader_readShire (d + 1) 0 0 0 [(0, .ref 13)] [] (85, I, J, R) 0 0
  refine ow_aload_n 0 rfl d_Reader_readShire_0 ?_
  refine ow_gI 77 d_Reader_readShire_1 rfl rfl (by decide) rfl (Or.inr rfl) ?_
  refine ow_if_eq (tgt := 13) d_Reader_readShire_4 (by decide) (fun c => ?_) (fun c => ?_)
  · replace T := T.1 c
    refine ow_aload_n 0 rfl d_Reader_readShire_13 ?_
    refine ow_iconst (v := 1) (by decide) d_Reader_readShire_14 ?_
    refine ow_pZ 77 d_Reader_readShire_15 rfl rfl (by decide) rfl ⟨rfl, by decide⟩ rfl ?_
    obtain ⟨I10, eI10⟩ : ∃ uu, uu = ow_u I 13 4 1 := ⟨_, rfl⟩
    replace T := T I10 eI10
    rw [← eI10]
    refine ow_aload_n 0 rfl d_Reader_readShire_18 ?_
    refine ow_gR (a := 25) 74 d_Reader_readShire_19 rfl rfl (by decide) rfl ⟨rfl, hR 13 1 (by decide)⟩ ?_
    refine ow_callV (b := 25) (cq := 7) (As := []) (rest := []) (d2 := d) d_Reader_readShire_22 l_Reader_73 v_Tokens_advance (show 25 < 85 by decide) rfl (by decide) rfl (Nat.le_of_ble_eq_true rfl) (Nat.le_refl _) ⟨Nat.le_refl _, Nat.le_refl _⟩ (ow_mono T ?_)
    rintro r h' ⟨I11, J11, R11, rfl, rfl, hR11, hTx, T⟩
    show ow_AW ow_Y0 (ow_Z Q) M_Reader_readShire (d + 1) 0 0 25 [(0, .ref 13)] [] (85, I11, J11, R11) 0 0
    refine ow_aload_n 0 rfl d_Reader_readShire_25 ?_
    refine ow_ldS (tx := "wind") (i := 7) 7 d_Reader_readShire_26 rfl ?_
    refine ow_callV (b := 13) (cq := 3) (As := [.ref (1000 + 7)]) (rest := []) (d2 := d) d_Reader_readShire_28 l_Reader_125 v_Reader_passWord (show 13 < 85 by decide) rfl (by decide) rfl (Nat.le_of_ble_eq_true rfl) (Nat.le_refl _) ⟨Nat.le_refl _, Nat.le_refl _⟩ (ow_mono T ?_)
    rintro r h' ⟨r12, I12, J12, R12, rfl, rfl, hR12, hTx, T⟩
    show ow_AW ow_Y0 (ow_Z Q) M_Reader_readShire (d + 1) 0 0 31 [(0, .ref 13)] [.int r12] (85, I12, J12, R12) 0 0
    refine ow_if_eq (tgt := 43) d_Reader_readShire_31 (by decide) (fun c => ?_) (fun c => ?_)
    · replace T := T.1 c
      refine ow_iconst (v := 0) (by decide) d_Reader_readShire_43 ?_
      exact ow_zret d_Reader_readShire_44 rfl (by decide) T
    · replace T := T.2 c
      refine ow_aload_n 0 rfl d_Reader_readShire_34 ?_
      refine ow_bipush (v := 100) (by decide) d_Reader_readShire_35 ?_
      refine ow_callV (b := 13) (cq := 3) (As := [.int 100]) (rest := []) (d2 := d) d_Reader_readShire_37 l_Reader_128 v_Reader_takeWhole (show 13 < 85 by decide) rfl (by decide) rfl (Nat.le_of_ble_eq_true rfl) (Nat.le_refl _) ⟨Nat.le_refl _, Nat.le_refl _⟩ (ow_mono T ?_)
      rintro r h' ⟨r13, I13, J13, R13, rfl, rfl, hR13, hTx, T⟩
      show ow_AW ow_Y0 (ow_Z Q) M_Reader_readShire (d + 1) 0 0 40 [(0, .ref 13)] [.int r13] (85, I13, J13, R13) 0 0
      refine ow_if_ne (tgt := 45) d_Reader_readShire_40 (by decide) (fun c => ?_) (fun c => ?_)
      · replace T := T.1 c
        refine ow_aload_n 0 rfl d_Reader_readShire_45 ?_
        refine ow_gR (a := 14) 72 d_Reader_readShire_46 rfl rfl (by decide) rfl ⟨rfl, hR13 13 0 (by decide)⟩ ?_
        refine ow_aload_n 0 rfl d_Reader_readShire_49 ?_
        refine ow_gI 81 d_Reader_readShire_50 rfl rfl (by decide) rfl (Or.inl rfl) ?_
        refine ow_pI 28 d_Reader_readShire_53 rfl rfl (by decide) rfl rfl rfl ?_
        obtain ⟨I14, eI14⟩ : ∃ uu, uu = ow_u I13 14 0 (I13 13 8) := ⟨_, rfl⟩
        replace T := T I14 eI14
        rw [← eI14]
        refine ow_aload_n 0 rfl d_Reader_readShire_56 ?_
        refine ow_ldS (tx := "rot") (i := 8) 8 d_Reader_readShire_57 rfl ?_
        refine ow_callV (b := 13) (cq := 3) (As := [.ref (1000 + 8)]) (rest := []) (d2 := d) d_Reader_readShire_59 l_Reader_125 v_Reader_passWord (show 13 < 85 by decide) rfl (by decide) rfl (Nat.le_of_ble_eq_true rfl) (Nat.le_refl _) ⟨Nat.le_refl _, Nat.le_refl _⟩ (ow_mono T ?_)
        rintro r h' ⟨r15, I15, J15, R15, rfl, rfl, hR15, hTx, T⟩
        show ow_AW ow_Y0 (ow_Z Q) M_Reader_readShire (d + 1) 0 0 62 [(0, .ref 13)] [.int r15] (85, I15, J15, R15) 0 0
        refine ow_if_eq (tgt := 74) d_Reader_readShire_62 (by decide) (fun c => ?_) (fun c => ?_)
        · replace T := T.1 c
          refine ow_iconst (v := 0) (by decide) d_Reader_readShire_74 ?_
          exact ow_zret d_Reader_readShire_75 rfl (by decide) T
        · replace T := T.2 c
          refine ow_aload_n 0 rfl d_Reader_readShire_65 ?_
          refine ow_bipush (v := 9) (by decide) d_Reader_readShire_66 ?_
          refine ow_callV (b := 13) (cq := 3) (As := [.int 9]) (rest := []) (d2 := d) d_Reader_readShire_68 l_Reader_128 v_Reader_takeWhole (show 13 < 85 by decide) rfl (by decide) rfl (Nat.le_of_ble_eq_true rfl) (Nat.le_refl _) ⟨Nat.le_refl _, Nat.le_refl _⟩ (ow_mono T ?_)
          rintro r h' ⟨r16, I16, J16, R16, rfl, rfl, hR16, hTx, T⟩
          show ow_AW ow_Y0 (ow_Z Q) M_Reader_readShire (d + 1) 0 0 71 [(0, .ref 13)] [.int r16] (85, I16, J16, R16) 0 0
          refine ow_if_ne (tgt := 76) d_Reader_readShire_71 (by decide) (fun c => ?_) (fun c => ?_)
          · replace T := T.1 c
            refine ow_aload_n 0 rfl d_Reader_readShire_76 ?_
            refine ow_gR (a := 14) 72 d_Reader_readShire_77 rfl rfl (by decide) rfl ⟨rfl, hR16 13 0 (by decide)⟩ ?_
            refine ow_aload_n 0 rfl d_Reader_readShire_80 ?_
            refine ow_gI 81 d_Reader_readShire_81 rfl rfl (by decide) rfl (Or.inl rfl) ?_
            refine ow_pI 32 d_Reader_readShire_84 rfl rfl (by decide) rfl rfl rfl ?_
            obtain ⟨I17, eI17⟩ : ∃ uu, uu = ow_u I16 14 1 (I16 13 8) := ⟨_, rfl⟩
            replace T := T I17 eI17
            rw [← eI17]
            refine ow_iconst (v := 1) (by decide) d_Reader_readShire_87 ?_
            exact ow_zret d_Reader_readShire_88 rfl (by decide) T
          · replace T := T.2 c
            refine ow_iconst (v := 0) (by decide) d_Reader_readShire_74 ?_
            exact ow_zret d_Reader_readShire_75 rfl (by decide) T
      · replace T := T.2 c
        refine ow_iconst (v := 0) (by decide) d_Reader_readShire_43 ?_
        exact ow_zret d_Reader_readShire_44 rfl (by decide) T
  · replace T := T.2 c
    refine ow_aload_n 0 rfl d_Reader_readShire_7 ?_
    refine ow_iconst (v := 3) (by decide) d_Reader_readShire_8 ?_
    refine ow_callV (b := 13) (cq := 3) (As := [.int 3]) (rest := []) (d2 := d) d_Reader_readShire_9 l_Reader_69 v_Reader_fail (show 13 < 85 by decide) rfl (by decide) rfl (Nat.le_of_ble_eq_true rfl) (Nat.le_refl _) ⟨Nat.le_refl _, Nat.le_refl _⟩ (ow_mono T ?_)
    rintro r h' ⟨r18, I18, J18, R18, rfl, rfl, hR18, hTx, T⟩
    show ow_AW ow_Y0 (ow_Z Q) M_Reader_readShire (d + 1) 0 0 12 [(0, .ref 13)] [.int r18] (85, I18, J18, R18) 0 0
    exact ow_zret d_Reader_readShire_12 rfl T.1 T.2
set_option maxRecDepth 4000 in
theorem t_Reader_readFolly {d : Nat} {I : Nat → Nat → Int32} {J : Nat → Nat → Int64} {R : Nat → Nat → Option Nat} {Q : Option Value → ow_H → Prop}   (hR : ow_RF R) (hTx : R 25 0 = some 1) (T : (((I 15 0) < 6 → (ow_AM M_Tokens_advance d [.ref 25] (85, I, J, R) (fun r h' => ∃ (I9 : Nat → Nat → Int32) (J9 : Nat → Nat → Int64) (R9 : Nat → Nat → Option Nat), r = none ∧ h' = (85, I9, J9, R9) ∧ ow_RF R9 ∧ R9 25 0 = some 1 ∧ (ow_AM M_Reader_takeNewName d [.ref 13] (85, I9, J9, R9) (fun r h' => ∃ (r10 : Int32) (I10 : Nat → Nat → Int32) (J10 : Nat → Nat → Int64) (R10 : Nat → Nat → Option Nat), r = some (.int r10) ∧ h' = (85, I10, J10, R10) ∧ ow_RF R10 ∧ R10 25 0 = some 1 ∧ ((r10 = 0 → Q (some (.int 0)) (85, I10, J10, R10)) ∧ (¬ r10 = 0 → (ow_AM M_Reader_takeShape d [.ref 13] (85, I10, J10, R10) (fun r h' => ∃ (r11 : Int32) (I11 : Nat → Nat → Int32) (J11 : Nat → Nat → Int64) (R11 : Nat → Nat → Option Nat), r = some (.int r11) ∧ h' = (85, I11, J11, R11) ∧ ow_RF R11 ∧ R11 25 0 = some 1 ∧ ((¬ r11 = 0 → (ow_AM M_Reader_passWord d [.ref 13, .ref (1000 + 14)] (85, I11, J11, R11) (fun r h' => ∃ (r12 : Int32) (I12 : Nat → Nat → Int32) (J12 : Nat → Nat → Int64) (R12 : Nat → Nat → Option Nat), r = some (.int r12) ∧ h' = (85, I12, J12, R12) ∧ ow_RF R12 ∧ R12 25 0 = some 1 ∧ ((r12 = 0 → Q (some (.int 0)) (85, I12, J12, R12)) ∧ (¬ r12 = 0 → (ow_AM M_Reader_takeWhole d [.ref 13, .int 99] (85, I12, J12, R12) (fun r h' => ∃ (r13 : Int32) (I13 : Nat → Nat → Int32) (J13 : Nat → Nat → Int64) (R13 : Nat → Nat → Option Nat), r = some (.int r13) ∧ h' = (85, I13, J13, R13) ∧ ow_RF R13 ∧ R13 25 0 = some 1 ∧ ((¬ r13 = 0 → (vp_in (I 15 0) 6 ∧ (∀ (J14 : Nat → Nat → Int64), J14 = ow_u J13 27 ((I 15 0).toNatClampNeg) (J13 13 7) → (ow_AM M_Scene_add d [.ref 15, .int (I11 13 8), .int (I13 13 8)] (85, I13, J14, R13) (fun r h' => ∃ (I15 : Nat → Nat → Int32) (J15 : Nat → Nat → Int64) (R15 : Nat → Nat → Option Nat), r = none ∧ h' = (85, I15, J15, R15) ∧ ow_RF R15 ∧ R15 25 0 = some 1 ∧ Q (some (.int 1)) (85, I15, J15, R15)))))) ∧ (r13 = 0 → Q (some (.int 0)) (85, I13, J13, R13)))))))))) ∧ (r11 = 0 → Q (some (.int 0)) (85, I11, J11, R11)))))))))))) ∧ (¬ (I 15 0) < 6 → (ow_AM M_Reader_fail d [.ref 13, .int 5] (85, I, J, R) (fun r h' => ∃ (r16 : Int32) (I16 : Nat → Nat → Int32) (J16 : Nat → Nat → Int64) (R16 : Nat → Nat → Option Nat), r = some (.int r16) ∧ h' = (85, I16, J16, R16) ∧ ow_RF R16 ∧ R16 25 0 = some 1 ∧ ((r16 = 0 ∨ r16 = 1) ∧ Q (some (.int r16)) (85, I16, J16, R16))))))) : ow_AM M_Reader_readFolly (d + 1) [.ref 13] (85, I, J, R) Q := by
  refine ow_enter (by decide) (Nat.le_of_ble_eq_true rfl) ?_
  show ow_AW ow_Y0 (ow_Z Q) M_Reader_readFolly (d + 1) 0 0 0 [(0, .ref 13)] [] (85, I, J, R) 0 0
  refine ow_aload_n 0 rfl d_Reader_readFolly_0 ?_
  refine ow_gR (a := 14) 72 d_Reader_readFolly_1 rfl rfl (by decide) rfl ⟨rfl, hR 13 0 (by decide)⟩ ?_
  refine ow_gR (a := 15) 36 d_Reader_readFolly_4 rfl rfl (by decide) rfl ⟨rfl, hR 14 2 (by decide)⟩ ?_
  refine ow_gI 2 d_Reader_readFolly_7 rfl rfl (by decide) rfl (Or.inl rfl) ?_
  refine ow_istore_n (ls2 := [(1, .int (I 15 0)), (0, .ref 13)]) d_Reader_readFolly_10 (by decide) rfl ?_
  refine ow_iload_n 0 rfl d_Reader_readFolly_11 ?_
  refine ow_bipush (v := 6) (by decide) d_Reader_readFolly_12 ?_
  refine ow_icmp_lt (tgt := 23) d_Reader_readFolly_14 (by decide) (fun c => ?_) (fun c => ?_)
  · replace T := T.1 c
    refine ow_aload_n 1 rfl d_Reader_readFolly_23 ?_
    refine ow_gR (a := 25) 74 d_Reader_readFolly_24 rfl rfl (by decide) rfl ⟨rfl, hR 13 1 (by decide)⟩ ?_
    refine ow_callV (b := 25) (cq := 7) (As := []) (rest := []) (d2 := d) d_Reader_readFolly_27 l_Reader_73 v_Tokens_advance (show 25 < 85 by decide) rfl (by decide) rfl (Nat.le_of_ble_eq_true rfl) (Nat.le_refl _) ⟨Nat.le_refl _, Nat.le_refl _⟩ (ow_mono T ?_)
    rintro r h' ⟨I9, J9, R9, rfl, rfl, hR9, hTx, T⟩
    show ow_AW ow_Y0 (ow_Z Q) M_Reader_readFolly (d + 1) 0 0 30 [(1, .int (I 15 0)), (0, .ref 13)] [] (85, I9, J9, R9) 0 0
    refine ow_aload_n 1 rfl d_Reader_readFolly_30 ?_
    refine ow_callV (b := 13) (cq := 3) (As := []) (rest := []) (d2 := d) d_Reader_readFolly_31 l_Reader_140 v_Reader_takeNewName (show 13 < 85 by decide) rfl (by decide) rfl (Nat.le_of_ble_eq_true rfl) (Nat.le_refl _) ⟨Nat.le_refl _, Nat.le_refl _⟩ (ow_mono T ?_)
    rintro r h' ⟨r10, I10, J10, R10, rfl, rfl, hR10, hTx, T⟩
    show ow_AW ow_Y0 (ow_Z Q) M_Reader_readFolly (d + 1) 0 0 34 [(1, .int (I 15 0)), (0, .ref 13)] [.int r10] (85, I10, J10, R10) 0 0
    refine ow_if_eq (tgt := 44) d_Reader_readFolly_34 (by decide) (fun c => ?_) (fun c => ?_)
    · replace T := T.1 c
      refine ow_iconst (v := 0) (by decide) d_Reader_readFolly_44 ?_
      exact ow_zret d_Reader_readFolly_45 rfl (by decide) T
    · replace T := T.2 c
      refine ow_aload_n 1 rfl d_Reader_readFolly_37 ?_
      refine ow_callV (b := 13) (cq := 3) (As := []) (rest := []) (d2 := d) d_Reader_readFolly_38 l_Reader_143 v_Reader_takeShape (show 13 < 85 by decide) rfl (by decide) rfl (Nat.le_of_ble_eq_true rfl) (Nat.le_refl _) ⟨Nat.le_refl _, Nat.le_refl _⟩ (ow_mono T ?_)
      rintro r h' ⟨r11, I11, J11, R11, rfl, rfl, hR11, hTx, T⟩
      show ow_AW ow_Y0 (ow_Z Q) M_Reader_readFolly (d + 1) 0 0 41 [(1, .int (I 15 0)), (0, .ref 13)] [.int r11] (85, I11, J11, R11) 0 0
      refine ow_if_ne (tgt := 46) d_Reader_readFolly_41 (by decide) (fun c => ?_) (fun c => ?_)
      · replace T := T.1 c
        refine ow_aload_n 1 rfl d_Reader_readFolly_46 ?_
        refine ow_gI 81 d_Reader_readFolly_47 rfl rfl (by decide) rfl (Or.inl rfl) ?_
        refine ow_istore_n (ls2 := [(2, .int (I11 13 8)), (1, .int (I 15 0)), (0, .ref 13)]) d_Reader_readFolly_50 (by decide) rfl ?_
        refine ow_aload_n 2 rfl d_Reader_readFolly_51 ?_
        refine ow_ldS (tx := "sound") (i := 14) 14 d_Reader_readFolly_52 rfl ?_
        refine ow_callV (b := 13) (cq := 3) (As := [.ref (1000 + 14)]) (rest := []) (d2 := d) d_Reader_readFolly_54 l_Reader_125 v_Reader_passWord (show 13 < 85 by decide) rfl (by decide) rfl (Nat.le_of_ble_eq_true rfl) (Nat.le_refl _) ⟨Nat.le_refl _, Nat.le_refl _⟩ (ow_mono T ?_)
        rintro r h' ⟨r12, I12, J12, R12, rfl, rfl, hR12, hTx, T⟩
        show ow_AW ow_Y0 (ow_Z Q) M_Reader_readFolly (d + 1) 0 0 57 [(2, .int (I11 13 8)), (1, .int (I 15 0)), (0, .ref 13)] [.int r12] (85, I12, J12, R12) 0 0
        refine ow_if_eq (tgt := 69) d_Reader_readFolly_57 (by decide) (fun c => ?_) (fun c => ?_)
        · replace T := T.1 c
          refine ow_iconst (v := 0) (by decide) d_Reader_readFolly_69 ?_
          exact ow_zret d_Reader_readFolly_70 rfl (by decide) T
        · replace T := T.2 c
          refine ow_aload_n 2 rfl d_Reader_readFolly_60 ?_
          refine ow_bipush (v := 99) (by decide) d_Reader_readFolly_61 ?_
          refine ow_callV (b := 13) (cq := 3) (As := [.int 99]) (rest := []) (d2 := d) d_Reader_readFolly_63 l_Reader_128 v_Reader_takeWhole (show 13 < 85 by decide) rfl (by decide) rfl (Nat.le_of_ble_eq_true rfl) (Nat.le_refl _) ⟨Nat.le_refl _, Nat.le_refl _⟩ (ow_mono T ?_)
          rintro r h' ⟨r13, I13, J13, R13, rfl, rfl, hR13, hTx, T⟩
          show ow_AW ow_Y0 (ow_Z Q) M_Reader_readFolly (d + 1) 0 0 66 [(2, .int (I11 13 8)), (1, .int (I 15 0)), (0, .ref 13)] [.int r13] (85, I13, J13, R13) 0 0
          refine ow_if_ne (tgt := 71) d_Reader_readFolly_66 (by decide) (fun c => ?_) (fun c => ?_)
          · replace T := T.1 c
            refine ow_aload_n 2 rfl d_Reader_readFolly_71 ?_
            refine ow_gR (a := 27) 75 d_Reader_readFolly_72 rfl rfl (by decide) rfl ⟨rfl, hR13 13 2 (by decide)⟩ ?_
            refine ow_iload_n 1 rfl d_Reader_readFolly_75 ?_
            refine ow_aload_n 2 rfl d_Reader_readFolly_76 ?_
            refine ow_gJ 80 d_Reader_readFolly_77 rfl rfl (by decide) rfl rfl ?_
            obtain ⟨cI, T⟩ := T
            refine ow_hlastore d_Reader_readFolly_80 (by decide) rfl rfl cI ?_
            obtain ⟨J14, eJ14⟩ : ∃ uu, uu = ow_u J13 27 ((I 15 0).toNatClampNeg) (J13 13 7) := ⟨_, rfl⟩
            replace T := T J14 eJ14
            rw [← eJ14]
            refine ow_aload_n 2 rfl d_Reader_readFolly_81 ?_
            refine ow_gR (a := 14) 72 d_Reader_readFolly_82 rfl rfl (by decide) rfl ⟨rfl, hR13 13 0 (by decide)⟩ ?_
            refine ow_gR (a := 15) 36 d_Reader_readFolly_85 rfl rfl (by decide) rfl ⟨rfl, hR13 14 2 (by decide)⟩ ?_
            refine ow_iload_n 0 rfl d_Reader_readFolly_88 ?_
            refine ow_aload_n 2 rfl d_Reader_readFolly_89 ?_
            refine ow_gI 81 d_Reader_readFolly_90 rfl rfl (by decide) rfl (Or.inl rfl) ?_
            refine ow_callV (b := 15) (cq := 4) (As := [.int (I11 13 8), .int (I13 13 8)]) (rest := []) (d2 := d) d_Reader_readFolly_93 l_Reader_152 v_Scene_add (show 15 < 85 by decide) rfl (by decide) rfl (Nat.le_of_ble_eq_true rfl) (Nat.le_refl _) ⟨Nat.le_refl _, Nat.le_refl _⟩ (ow_mono T ?_)
            rintro r h' ⟨I15, J15, R15, rfl, rfl, hR15, hTx, T⟩
            show ow_AW ow_Y0 (ow_Z Q) M_Reader_readFolly (d + 1) 0 0 96 [(2, .int (I11 13 8)), (1, .int (I 15 0)), (0, .ref 13)] [] (85, I15, J15, R15) 0 0
            refine ow_iconst (v := 1) (by decide) d_Reader_readFolly_96 ?_
            exact ow_zret d_Reader_readFolly_97 rfl (by decide) T
          · replace T := T.2 c
            refine ow_iconst (v := 0) (by decide) d_Reader_readFolly_69 ?_
            exact ow_zret d_Reader_readFolly_70 rfl (by decide) T
      · replace T := T.2 c
        refine ow_iconst (v := 0) (by decide) d_Reader_readFolly_44 ?_
        exact ow_zret d_Reader_readFolly_45 rfl (by decide) T
  · replace T := T.2 c
    refine ow_aload_n 1 rfl d_Reader_readFolly_17 ?_
    refine ow_iconst (v := 5) (by decide) d_Reader_readFolly_18 ?_
    refine ow_callV (b := 13) (cq := 3) (As := [.int 5]) (rest := []) (d2 := d) d_Reader_readFolly_19 l_Reader_69 v_Reader_fail (show 13 < 85 by decide) rfl (by decide) rfl (Nat.le_of_ble_eq_true rfl) (Nat.le_refl _) ⟨Nat.le_refl _, Nat.le_refl _⟩ (ow_mono T ?_)
    rintro r h' ⟨r16, I16, J16, R16, rfl, rfl, hR16, hTx, T⟩
    show ow_AW ow_Y0 (ow_Z Q) M_Reader_readFolly (d + 1) 0 0 22 [(1, .int (I 15 0)), (0, .ref 13)] [.int r16] (85, I16, J16, R16) 0 0
    exact ow_zret d_Reader_readFolly_22 rfl T.1 T.2
set_option maxRecDepth 4000 in
theorem t_Reader_readSends {d : Nat} {I : Nat → Nat → Int32} {J : Nat → Nat → Int64} {R : Nat → Nat → Option Nat} {Q : Option Value → ow_H → Prop}   (hR : ow_RF R) (hTx : R 25 0 = some 1) (T : (ow_AM M_Tokens_advance d [.ref 25] (85, I, J, R) (fun r h' => ∃ (I6 : Nat → Nat → Int32) (J6 : Nat → Nat → Int64) (R6 : Nat → Nat → Option Nat), r = none ∧ h' = (85, I6, J6, R6) ∧ ow_RF R6 ∧ R6 25 0 = some 1 ∧ (ow_AM M_Reader_takeFolly d [.ref 13, .int (I6 13 5)] (85, I6, J6, R6) (fun r h' => ∃ (r7 : Int32) (I7 : Nat → Nat → Int32) (J7 : Nat → Nat → Int64) (R7 : Nat → Nat → Option Nat), r = some (.int r7) ∧ h' = (85, I7, J7, R7) ∧ ow_RF R7 ∧ R7 25 0 = some 1 ∧ ((¬ r7 = 0 → (ow_AM M_Reader_takeFolly d [.ref 13, .int ((1 : Int32) <<< ((I7 13 8) &&& 31))] (85, I7, J7, R7) (fun r h' => ∃ (r8 : Int32) (I8 : Nat → Nat → Int32) (J8 : Nat → Nat → Int64) (R8 : Nat → Nat → Option Nat), r = some (.int r8) ∧ h' = (85, I8, J8, R8) ∧ ow_RF R8 ∧ R8 25 0 = some 1 ∧ ((¬ r8 = 0 → (∀ (I9 : Nat → Nat → Int32), I9 = ow_u I8 13 5 ((I8 13 5) ||| ((1 : Int32) <<< ((I7 13 8) &&& 31))) → (ow_AM M_Scene_aim d [.ref 15, .int (I7 13 8), .int (I9 13 8)] (85, I9, J8, R8) (fun r h' => ∃ (I10 : Nat → Nat → Int32) (J10 : Nat → Nat → Int64) (R10 : Nat → Nat → Option Nat), r = none ∧ h' = (85, I10, J10, R10) ∧ ow_RF R10 ∧ R10 25 0 = some 1 ∧ Q (some (.int 1)) (85, I10, J10, R10))))) ∧ (r8 = 0 → Q (some (.int 0)) (85, I8, J8, R8)))))) ∧ (r7 = 0 → Q (some (.int 0)) (85, I7, J7, R7)))))))) : ow_AM M_Reader_readSends (d + 1) [.ref 13] (85, I, J, R) Q := by
  refine ow_enter (by decide) (Nat.le_of_ble_eq_true rfl) ?_
  show ow_AW ow_Y0 (ow_Z Q) M_Reader_readSends (d + 1) 0 0 0 [(0, .ref 13)] [] (85, I, J, R) 0 0
  refine ow_aload_n 0 rfl d_Reader_readSends_0 ?_
  refine ow_gR (a := 25) 74 d_Reader_readSends_1 rfl rfl (by decide) rfl ⟨rfl, hR 13 1 (by decide)⟩ ?_
  refine ow_callV (b := 25) (cq := 7) (As := []) (rest := []) (d2 := d) d_Reader_readSends_4 l_Reader_73 v_Tokens_advance (show 25 < 85 by decide) rfl (by decide) rfl (Nat.le_of_ble_eq_true rfl) (Nat.le_refl _) ⟨Nat.le_refl _, Nat.le_refl _⟩ (ow_mono T ?_)
  rintro r h' ⟨I6, J6, R6, rfl, rfl, hR6, hTx, T⟩
  show ow_AW ow_Y0 (ow_Z Q) M_Reader_readSends (d + 1) 0 0 7 [(0, .ref 13)] [] (85, I6, J6, R6) 0 0
  refine ow_aload_n 0 rfl d_Reader_readSends_7 ?_
  refine ow_aload_n 0 rfl d_Reader_readSends_8 ?_
  refine ow_gI 78 d_Reader_readSends_9 rfl rfl (by decide) rfl (Or.inl rfl) ?_
  refine ow_callV (b := 13) (cq := 3) (As := [.int (I6 13 5)]) (rest := []) (d2 := d) d_Reader_readSends_12 l_Reader_156 v_Reader_takeFolly (show 13 < 85 by decide) rfl (by decide) rfl (Nat.le_of_ble_eq_true rfl) (Nat.le_refl _) ⟨Nat.le_refl _, Nat.le_refl _⟩ (ow_mono T ?_)
  rintro r h' ⟨r7, I7, J7, R7, rfl, rfl, hR7, hTx, T⟩
  show ow_AW ow_Y0 (ow_Z Q) M_Reader_readSends (d + 1) 0 0 15 [(0, .ref 13)] [.int r7] (85, I7, J7, R7) 0 0
  refine ow_if_ne (tgt := 20) d_Reader_readSends_15 (by decide) (fun c => ?_) (fun c => ?_)
  · replace T := T.1 c
    refine ow_aload_n 0 rfl d_Reader_readSends_20 ?_
    refine ow_gI 81 d_Reader_readSends_21 rfl rfl (by decide) rfl (Or.inl rfl) ?_
    refine ow_istore_n (ls2 := [(1, .int (I7 13 8)), (0, .ref 13)]) d_Reader_readSends_24 (by decide) rfl ?_
    refine ow_aload_n 1 rfl d_Reader_readSends_25 ?_
    refine ow_iconst (v := 1) (by decide) d_Reader_readSends_26 ?_
    refine ow_iload_n 0 rfl d_Reader_readSends_27 ?_
    refine ow_ishl d_Reader_readSends_28 ?_
    refine ow_callV (b := 13) (cq := 3) (As := [.int ((1 : Int32) <<< ((I7 13 8) &&& 31))]) (rest := []) (d2 := d) d_Reader_readSends_29 l_Reader_156 v_Reader_takeFolly (show 13 < 85 by decide) rfl (by decide) rfl (Nat.le_of_ble_eq_true rfl) (Nat.le_refl _) ⟨Nat.le_refl _, Nat.le_refl _⟩ (ow_mono T ?_)
    rintro r h' ⟨r8, I8, J8, R8, rfl, rfl, hR8, hTx, T⟩
    show ow_AW ow_Y0 (ow_Z Q) M_Reader_readSends (d + 1) 0 0 32 [(1, .int (I7 13 8)), (0, .ref 13)] [.int r8] (85, I8, J8, R8) 0 0
    refine ow_if_ne (tgt := 37) d_Reader_readSends_32 (by decide) (fun c => ?_) (fun c => ?_)
    · replace T := T.1 c
      refine ow_aload_n 1 rfl d_Reader_readSends_37 ?_
      refine ow_dup rfl d_Reader_readSends_38 ?_
      refine ow_gI 78 d_Reader_readSends_39 rfl rfl (by decide) rfl (Or.inl rfl) ?_
      refine ow_iconst (v := 1) (by decide) d_Reader_readSends_42 ?_
      refine ow_iload_n 0 rfl d_Reader_readSends_43 ?_
      refine ow_ishl d_Reader_readSends_44 ?_
      refine ow_ior d_Reader_readSends_45 ?_
      refine ow_pI 78 d_Reader_readSends_46 rfl rfl (by decide) rfl rfl rfl ?_
      obtain ⟨I9, eI9⟩ : ∃ uu, uu = ow_u I8 13 5 ((I8 13 5) ||| ((1 : Int32) <<< ((I7 13 8) &&& 31))) := ⟨_, rfl⟩
      replace T := T I9 eI9
      rw [← eI9]
      refine ow_aload_n 1 rfl d_Reader_readSends_49 ?_
      refine ow_gR (a := 14) 72 d_Reader_readSends_50 rfl rfl (by decide) rfl ⟨rfl, hR8 13 0 (by decide)⟩ ?_
      refine ow_gR (a := 15) 36 d_Reader_readSends_53 rfl rfl (by decide) rfl ⟨rfl, hR8 14 2 (by decide)⟩ ?_
      refine ow_iload_n 0 rfl d_Reader_readSends_56 ?_
      refine ow_aload_n 1 rfl d_Reader_readSends_57 ?_
      refine ow_gI 81 d_Reader_readSends_58 rfl rfl (by decide) rfl (Or.inl rfl) ?_
      refine ow_callV (b := 15) (cq := 4) (As := [.int (I7 13 8), .int (I9 13 8)]) (rest := []) (d2 := d) d_Reader_readSends_61 l_Reader_159 v_Scene_aim (show 15 < 85 by decide) rfl (by decide) rfl (Nat.le_of_ble_eq_true rfl) (Nat.le_refl _) ⟨Nat.le_refl _, Nat.le_refl _⟩ (ow_mono T ?_)
      rintro r h' ⟨I10, J10, R10, rfl, rfl, hR10, hTx, T⟩
      show ow_AW ow_Y0 (ow_Z Q) M_Reader_readSends (d + 1) 0 0 64 [(1, .int (I7 13 8)), (0, .ref 13)] [] (85, I10, J10, R10) 0 0
      refine ow_iconst (v := 1) (by decide) d_Reader_readSends_64 ?_
      exact ow_zret d_Reader_readSends_65 rfl (by decide) T
    · replace T := T.2 c
      refine ow_iconst (v := 0) (by decide) d_Reader_readSends_35 ?_
      exact ow_zret d_Reader_readSends_36 rfl (by decide) T
  · replace T := T.2 c
    refine ow_iconst (v := 0) (by decide) d_Reader_readSends_18 ?_
    exact ow_zret d_Reader_readSends_19 rfl (by decide) T
set_option maxRecDepth 4000 in
theorem t_Reader_readHermit {d : Nat} {I : Nat → Nat → Int32} {J : Nat → Nat → Int64} {R : Nat → Nat → Option Nat} {Q : Option Value → ow_H → Prop}   (hR : ow_RF R) (hTx : R 25 0 = some 1) (T : (ow_AM M_Tokens_advance d [.ref 25] (85, I, J, R) (fun r h' => ∃ (I4 : Nat → Nat → Int32) (J4 : Nat → Nat → Int64) (R4 : Nat → Nat → Option Nat), r = none ∧ h' = (85, I4, J4, R4) ∧ ow_RF R4 ∧ R4 25 0 = some 1 ∧ (ow_AM M_Reader_takeFolly d [.ref 13, .int (I4 15 2)] (85, I4, J4, R4) (fun r h' => ∃ (r5 : Int32) (I5 : Nat → Nat → Int32) (J5 : Nat → Nat → Int64) (R5 : Nat → Nat → Option Nat), r = some (.int r5) ∧ h' = (85, I5, J5, R5) ∧ ow_RF R5 ∧ R5 25 0 = some 1 ∧ ((¬ r5 = 0 → (∀ (I6 : Nat → Nat → Int32), I6 = ow_u I5 15 2 ((I5 15 2) ||| ((1 : Int32) <<< ((I5 13 8) &&& 31))) → Q (some (.int 1)) (85, I6, J5, R5))) ∧ (r5 = 0 → Q (some (.int 0)) (85, I5, J5, R5)))))))) : ow_AM M_Reader_readHermit (d + 1) [.ref 13] (85, I, J, R) Q := by
  refine ow_enter (by decide) (Nat.le_of_ble_eq_true rfl) ?_
  show ow_AW ow_Y0 (ow_Z Q) M_Reader_readHermit (d + 1) 0 0 0 [(0, .ref 13)] [] (85, I, J, R) 0 0
  refine ow_aload_n 0 rfl d_Reader_readHermit_0 ?_
  refine ow_gR (a := 25) 74 d_Reader_readHermit_1 rfl rfl (by decide) rfl ⟨rfl, hR 13 1 (by decide)⟩ ?_
  refine ow_callV (b := 25) (cq := 7) (As := []) (rest := []) (d2 := d) d_Reader_readHermit_4 l_Reader_73 v_Tokens_advance (show 25 < 85 by decide) rfl (by decide) rfl (Nat.le_of_ble_eq_true rfl) (Nat.le_refl _) ⟨Nat.le_refl _, Nat.le_refl _⟩ (ow_mono T ?_)
  rintro r h' ⟨I4, J4, R4, rfl, rfl, hR4, hTx, T⟩
  show ow_AW ow_Y0 (ow_Z Q) M_Reader_readHermit (d + 1) 0 0 7 [(0, .ref 13)] [] (85, I4, J4, R4) 0 0
  refine ow_aload_n 0 rfl d_Reader_readHermit_7 ?_
  refine ow_aload_n 0 rfl d_Reader_readHermit_8 ?_
  refine ow_gR (a := 14) 72 d_Reader_readHermit_9 rfl rfl (by decide) rfl ⟨rfl, hR4 13 0 (by decide)⟩ ?_
  refine ow_gR (a := 15) 36 d_Reader_readHermit_12 rfl rfl (by decide) rfl ⟨rfl, hR4 14 2 (by decide)⟩ ?_
  refine ow_gI 12 d_Reader_readHermit_15 rfl rfl (by decide) rfl (Or.inl rfl) ?_
  refine ow_callV (b := 13) (cq := 3) (As := [.int (I4 15 2)]) (rest := []) (d2 := d) d_Reader_readHermit_18 l_Reader_156 v_Reader_takeFolly (show 13 < 85 by decide) rfl (by decide) rfl (Nat.le_of_ble_eq_true rfl) (Nat.le_refl _) ⟨Nat.le_refl _, Nat.le_refl _⟩ (ow_mono T ?_)
  rintro r h' ⟨r5, I5, J5, R5, rfl, rfl, hR5, hTx, T⟩
  show ow_AW ow_Y0 (ow_Z Q) M_Reader_readHermit (d + 1) 0 0 21 [(0, .ref 13)] [.int r5] (85, I5, J5, R5) 0 0
  refine ow_if_ne (tgt := 26) d_Reader_readHermit_21 (by decide) (fun c => ?_) (fun c => ?_)
  · replace T := T.1 c
    refine ow_aload_n 0 rfl d_Reader_readHermit_26 ?_
    refine ow_gR (a := 14) 72 d_Reader_readHermit_27 rfl rfl (by decide) rfl ⟨rfl, hR5 13 0 (by decide)⟩ ?_
    refine ow_gR (a := 15) 36 d_Reader_readHermit_30 rfl rfl (by decide) rfl ⟨rfl, hR5 14 2 (by decide)⟩ ?_
    refine ow_dup rfl d_Reader_readHermit_33 ?_
    refine ow_gI 12 d_Reader_readHermit_34 rfl rfl (by decide) rfl (Or.inl rfl) ?_
    refine ow_iconst (v := 1) (by decide) d_Reader_readHermit_37 ?_
    refine ow_aload_n 0 rfl d_Reader_readHermit_38 ?_
    refine ow_gI 81 d_Reader_readHermit_39 rfl rfl (by decide) rfl (Or.inl rfl) ?_
    refine ow_ishl d_Reader_readHermit_42 ?_
    refine ow_ior d_Reader_readHermit_43 ?_
    refine ow_pI 12 d_Reader_readHermit_44 rfl rfl (by decide) rfl rfl rfl ?_
    obtain ⟨I6, eI6⟩ : ∃ uu, uu = ow_u I5 15 2 ((I5 15 2) ||| ((1 : Int32) <<< ((I5 13 8) &&& 31))) := ⟨_, rfl⟩
    replace T := T I6 eI6
    rw [← eI6]
    refine ow_iconst (v := 1) (by decide) d_Reader_readHermit_47 ?_
    exact ow_zret d_Reader_readHermit_48 rfl (by decide) T
  · replace T := T.2 c
    refine ow_iconst (v := 0) (by decide) d_Reader_readHermit_24 ?_
    exact ow_zret d_Reader_readHermit_25 rfl (by decide) T
set_option maxRecDepth 4000 in
theorem t_Reader_readEstate {d : Nat} {I : Nat → Nat → Int32} {J : Nat → Nat → Int64} {R : Nat → Nat → Option Nat} {Q : Option Value → ow_H → Prop}   (hR : ow_RF R) (hTx : R 25 0 = some 1) (T : (((I 14 3) < 5 → (ow_AM M_Tokens_advance d [.ref 25] (85, I, J, R) (fun r h' => ∃ (I9 : Nat → Nat → Int32) (J9 : Nat → Nat → Int64) (R9 : Nat → Nat → Option Nat), r = none ∧ h' = (85, I9, J9, R9) ∧ ow_RF R9 ∧ R9 25 0 = some 1 ∧ (ow_AM M_Reader_takeNewName d [.ref 13] (85, I9, J9, R9) (fun r h' => ∃ (r10 : Int32) (I10 : Nat → Nat → Int32) (J10 : Nat → Nat → Int64) (R10 : Nat → Nat → Option Nat), r = some (.int r10) ∧ h' = (85, I10, J10, R10) ∧ ow_RF R10 ∧ R10 25 0 = some 1 ∧ ((r10 = 0 → Q (some (.int 0)) (85, I10, J10, R10)) ∧ (¬ r10 = 0 → (ow_AM M_Reader_takeFolly d [.ref 13, .int 0] (85, I10, J10, R10) (fun r h' => ∃ (r11 : Int32) (I11 : Nat → Nat → Int32) (J11 : Nat → Nat → Int64) (R11 : Nat → Nat → Option Nat), r = some (.int r11) ∧ h' = (85, I11, J11, R11) ∧ ow_RF R11 ∧ R11 25 0 = some 1 ∧ ((¬ r11 = 0 → (ow_AM M_Reader_passWord d [.ref 13, .ref (1000 + 15)] (85, I11, J11, R11) (fun r h' => ∃ (r12 : Int32) (I12 : Nat → Nat → Int32) (J12 : Nat → Nat → Int64) (R12 : Nat → Nat → Option Nat), r = some (.int r12) ∧ h' = (85, I12, J12, R12) ∧ ow_RF R12 ∧ R12 25 0 = some 1 ∧ ((r12 = 0 → Q (some (.int 0)) (85, I12, J12, R12)) ∧ (¬ r12 = 0 → (ow_AM M_Reader_takeWhole d [.ref 13, .int 99] (85, I12, J12, R12) (fun r h' => ∃ (r13 : Int32) (I13 : Nat → Nat → Int32) (J13 : Nat → Nat → Int64) (R13 : Nat → Nat → Option Nat), r = some (.int r13) ∧ h' = (85, I13, J13, R13) ∧ ow_RF R13 ∧ R13 25 0 = some 1 ∧ ((¬ r13 = 0 → (vp_in (I 14 3) 5 ∧ (∀ (J14 : Nat → Nat → Int64), J14 = ow_u J13 28 ((I 14 3).toNatClampNeg) (J13 13 7) → (ow_AM M_Told_addEstate d [.ref 14, .int (I11 13 8), .int (I13 13 8)] (85, I13, J14, R13) (fun r h' => ∃ (I15 : Nat → Nat → Int32) (J15 : Nat → Nat → Int64) (R15 : Nat → Nat → Option Nat), r = none ∧ h' = (85, I15, J15, R15) ∧ ow_RF R15 ∧ R15 25 0 = some 1 ∧ Q (some (.int 1)) (85, I15, J15, R15)))))) ∧ (r13 = 0 → Q (some (.int 0)) (85, I13, J13, R13)))))))))) ∧ (r11 = 0 → Q (some (.int 0)) (85, I11, J11, R11)))))))))))) ∧ (¬ (I 14 3) < 5 → (ow_AM M_Reader_fail d [.ref 13, .int 5] (85, I, J, R) (fun r h' => ∃ (r16 : Int32) (I16 : Nat → Nat → Int32) (J16 : Nat → Nat → Int64) (R16 : Nat → Nat → Option Nat), r = some (.int r16) ∧ h' = (85, I16, J16, R16) ∧ ow_RF R16 ∧ R16 25 0 = some 1 ∧ ((r16 = 0 ∨ r16 = 1) ∧ Q (some (.int r16)) (85, I16, J16, R16))))))) : ow_AM M_Reader_readEstate (d + 1) [.ref 13] (85, I, J, R) Q := by
  refine ow_enter (by decide) (Nat.le_of_ble_eq_true rfl) ?_
  show ow_AW ow_Y0 (ow_Z Q) M_Reader_readEstate (d + 1) 0 0 0 [(0, .ref 13)] [] (85, I, J, R) 0 0
  refine ow_aload_n 0 rfl d_Reader_readEstate_0 ?_
  refine ow_gR (a := 14) 72 d_Reader_readEstate_1 rfl rfl (by decide) rfl ⟨rfl, hR 13 0 (by decide)⟩ ?_
  refine ow_gI 41 d_Reader_readEstate_4 rfl rfl (by decide) rfl (Or.inl rfl) ?_
  refine ow_istore_n (ls2 := [(1, .int (I 14 3)), (0, .ref 13)]) d_Reader_readEstate_7 (by decide) rfl ?_
  refine ow_iload_n 0 rfl d_Reader_readEstate_8 ?_
  refine ow_iconst (v := 5) (by decide) d_Reader_readEstate_9 ?_
  refine ow_icmp_lt (tgt := 19) d_Reader_readEstate_10 (by decide) (fun c => ?_) (fun c => ?_)
  · replace T := T.1 c
    refine ow_aload_n 1 rfl d_Reader_readEstate_19 ?_
    refine ow_gR (a := 25) 74 d_Reader_readEstate_20 rfl rfl (by decide) rfl ⟨rfl, hR 13 1 (by decide)⟩ ?_
    refine ow_callV (b := 25) (cq := 7) (As := []) (rest := []) (d2 := d) d_Reader_readEstate_23 l_Reader_73 v_Tokens_advance (show 25 < 85 by decide) rfl (by decide) rfl (Nat.le_of_ble_eq_true rfl) (Nat.le_refl _) ⟨Nat.le_refl _, Nat.le_refl _⟩ (ow_mono T ?_)
    rintro r h' ⟨I9, J9, R9, rfl, rfl, hR9, hTx, T⟩
    show ow_AW ow_Y0 (ow_Z Q) M_Reader_readEstate (d + 1) 0 0 26 [(1, .int (I 14 3)), (0, .ref 13)] [] (85, I9, J9, R9) 0 0
    refine ow_aload_n 1 rfl d_Reader_readEstate_26 ?_
    refine ow_callV (b := 13) (cq := 3) (As := []) (rest := []) (d2 := d) d_Reader_readEstate_27 l_Reader_140 v_Reader_takeNewName (show 13 < 85 by decide) rfl (by decide) rfl (Nat.le_of_ble_eq_true rfl) (Nat.le_refl _) ⟨Nat.le_refl _, Nat.le_refl _⟩ (ow_mono T ?_)
    rintro r h' ⟨r10, I10, J10, R10, rfl, rfl, hR10, hTx, T⟩
    show ow_AW ow_Y0 (ow_Z Q) M_Reader_readEstate (d + 1) 0 0 30 [(1, .int (I 14 3)), (0, .ref 13)] [.int r10] (85, I10, J10, R10) 0 0
    refine ow_if_eq (tgt := 41) d_Reader_readEstate_30 (by decide) (fun c => ?_) (fun c => ?_)
    · replace T := T.1 c
      refine ow_iconst (v := 0) (by decide) d_Reader_readEstate_41 ?_
      exact ow_zret d_Reader_readEstate_42 rfl (by decide) T
    · replace T := T.2 c
      refine ow_aload_n 1 rfl d_Reader_readEstate_33 ?_
      refine ow_iconst (v := 0) (by decide) d_Reader_readEstate_34 ?_
      refine ow_callV (b := 13) (cq := 3) (As := [.int 0]) (rest := []) (d2 := d) d_Reader_readEstate_35 l_Reader_156 v_Reader_takeFolly (show 13 < 85 by decide) rfl (by decide) rfl (Nat.le_of_ble_eq_true rfl) (Nat.le_refl _) ⟨Nat.le_refl _, Nat.le_refl _⟩ (ow_mono T ?_)
      rintro r h' ⟨r11, I11, J11, R11, rfl, rfl, hR11, hTx, T⟩
      show ow_AW ow_Y0 (ow_Z Q) M_Reader_readEstate (d + 1) 0 0 38 [(1, .int (I 14 3)), (0, .ref 13)] [.int r11] (85, I11, J11, R11) 0 0
      refine ow_if_ne (tgt := 43) d_Reader_readEstate_38 (by decide) (fun c => ?_) (fun c => ?_)
      · replace T := T.1 c
        refine ow_aload_n 1 rfl d_Reader_readEstate_43 ?_
        refine ow_gI 81 d_Reader_readEstate_44 rfl rfl (by decide) rfl (Or.inl rfl) ?_
        refine ow_istore_n (ls2 := [(2, .int (I11 13 8)), (1, .int (I 14 3)), (0, .ref 13)]) d_Reader_readEstate_47 (by decide) rfl ?_
        refine ow_aload_n 2 rfl d_Reader_readEstate_48 ?_
        refine ow_ldS (tx := "debt") (i := 15) 15 d_Reader_readEstate_49 rfl ?_
        refine ow_callV (b := 13) (cq := 3) (As := [.ref (1000 + 15)]) (rest := []) (d2 := d) d_Reader_readEstate_51 l_Reader_125 v_Reader_passWord (show 13 < 85 by decide) rfl (by decide) rfl (Nat.le_of_ble_eq_true rfl) (Nat.le_refl _) ⟨Nat.le_refl _, Nat.le_refl _⟩ (ow_mono T ?_)
        rintro r h' ⟨r12, I12, J12, R12, rfl, rfl, hR12, hTx, T⟩
        show ow_AW ow_Y0 (ow_Z Q) M_Reader_readEstate (d + 1) 0 0 54 [(2, .int (I11 13 8)), (1, .int (I 14 3)), (0, .ref 13)] [.int r12] (85, I12, J12, R12) 0 0
        refine ow_if_eq (tgt := 66) d_Reader_readEstate_54 (by decide) (fun c => ?_) (fun c => ?_)
        · replace T := T.1 c
          refine ow_iconst (v := 0) (by decide) d_Reader_readEstate_66 ?_
          exact ow_zret d_Reader_readEstate_67 rfl (by decide) T
        · replace T := T.2 c
          refine ow_aload_n 2 rfl d_Reader_readEstate_57 ?_
          refine ow_bipush (v := 99) (by decide) d_Reader_readEstate_58 ?_
          refine ow_callV (b := 13) (cq := 3) (As := [.int 99]) (rest := []) (d2 := d) d_Reader_readEstate_60 l_Reader_128 v_Reader_takeWhole (show 13 < 85 by decide) rfl (by decide) rfl (Nat.le_of_ble_eq_true rfl) (Nat.le_refl _) ⟨Nat.le_refl _, Nat.le_refl _⟩ (ow_mono T ?_)
          rintro r h' ⟨r13, I13, J13, R13, rfl, rfl, hR13, hTx, T⟩
          show ow_AW ow_Y0 (ow_Z Q) M_Reader_readEstate (d + 1) 0 0 63 [(2, .int (I11 13 8)), (1, .int (I 14 3)), (0, .ref 13)] [.int r13] (85, I13, J13, R13) 0 0
          refine ow_if_ne (tgt := 68) d_Reader_readEstate_63 (by decide) (fun c => ?_) (fun c => ?_)
          · replace T := T.1 c
            refine ow_aload_n 2 rfl d_Reader_readEstate_68 ?_
            refine ow_gR (a := 28) 76 d_Reader_readEstate_69 rfl rfl (by decide) rfl ⟨rfl, hR13 13 3 (by decide)⟩ ?_
            refine ow_iload_n 1 rfl d_Reader_readEstate_72 ?_
            refine ow_aload_n 2 rfl d_Reader_readEstate_73 ?_
            refine ow_gJ 80 d_Reader_readEstate_74 rfl rfl (by decide) rfl rfl ?_
            obtain ⟨cI, T⟩ := T
            refine ow_hlastore d_Reader_readEstate_77 (by decide) rfl rfl cI ?_
            obtain ⟨J14, eJ14⟩ : ∃ uu, uu = ow_u J13 28 ((I 14 3).toNatClampNeg) (J13 13 7) := ⟨_, rfl⟩
            replace T := T J14 eJ14
            rw [← eJ14]
            refine ow_aload_n 2 rfl d_Reader_readEstate_78 ?_
            refine ow_gR (a := 14) 72 d_Reader_readEstate_79 rfl rfl (by decide) rfl ⟨rfl, hR13 13 0 (by decide)⟩ ?_
            refine ow_iload_n 0 rfl d_Reader_readEstate_82 ?_
            refine ow_aload_n 2 rfl d_Reader_readEstate_83 ?_
            refine ow_gI 81 d_Reader_readEstate_84 rfl rfl (by decide) rfl (Or.inl rfl) ?_
            refine ow_callV (b := 14) (cq := 8) (As := [.int (I11 13 8), .int (I13 13 8)]) (rest := []) (d2 := d) d_Reader_readEstate_87 l_Reader_170 v_Told_addEstate (show 14 < 85 by decide) rfl (by decide) rfl (Nat.le_of_ble_eq_true rfl) (Nat.le_refl _) ⟨Nat.le_refl _, Nat.le_refl _⟩ (ow_mono T ?_)
            rintro r h' ⟨I15, J15, R15, rfl, rfl, hR15, hTx, T⟩
            show ow_AW ow_Y0 (ow_Z Q) M_Reader_readEstate (d + 1) 0 0 90 [(2, .int (I11 13 8)), (1, .int (I 14 3)), (0, .ref 13)] [] (85, I15, J15, R15) 0 0
            refine ow_iconst (v := 1) (by decide) d_Reader_readEstate_90 ?_
            exact ow_zret d_Reader_readEstate_91 rfl (by decide) T
          · replace T := T.2 c
            refine ow_iconst (v := 0) (by decide) d_Reader_readEstate_66 ?_
            exact ow_zret d_Reader_readEstate_67 rfl (by decide) T
      · replace T := T.2 c
        refine ow_iconst (v := 0) (by decide) d_Reader_readEstate_41 ?_
        exact ow_zret d_Reader_readEstate_42 rfl (by decide) T
  · replace T := T.2 c
    refine ow_aload_n 1 rfl d_Reader_readEstate_13 ?_
    refine ow_iconst (v := 5) (by decide) d_Reader_readEstate_14 ?_
    refine ow_callV (b := 13) (cq := 3) (As := [.int 5]) (rest := []) (d2 := d) d_Reader_readEstate_15 l_Reader_69 v_Reader_fail (show 13 < 85 by decide) rfl (by decide) rfl (Nat.le_of_ble_eq_true rfl) (Nat.le_refl _) ⟨Nat.le_refl _, Nat.le_refl _⟩ (ow_mono T ?_)
    rintro r h' ⟨r16, I16, J16, R16, rfl, rfl, hR16, hTx, T⟩
    show ow_AW ow_Y0 (ow_Z Q) M_Reader_readEstate (d + 1) 0 0 18 [(1, .int (I 14 3)), (0, .ref 13)] [.int r16] (85, I16, J16, R16) 0 0
    exact ow_zret d_Reader_readEstate_18 rfl T.1 T.2
set_option maxRecDepth 4000 in
theorem t_Reader_readVeiled {d : Nat} {I : Nat → Nat → Int32} {J : Nat → Nat → Int64} {R : Nat → Nat → Option Nat} {Q : Option Value → ow_H → Prop}   (hR : ow_RF R) (hTx : R 25 0 = some 1) (T : (((I 14 7) < 3 → (ow_AM M_Tokens_advance d [.ref 25] (85, I, J, R) (fun r h' => ∃ (I6 : Nat → Nat → Int32) (J6 : Nat → Nat → Int64) (R6 : Nat → Nat → Option Nat), r = none ∧ h' = (85, I6, J6, R6) ∧ ow_RF R6 ∧ R6 25 0 = some 1 ∧ (ow_AM M_Reader_takeFolly d [.ref 13, .int (I6 13 6)] (85, I6, J6, R6) (fun r h' => ∃ (r7 : Int32) (I7 : Nat → Nat → Int32) (J7 : Nat → Nat → Int64) (R7 : Nat → Nat → Option Nat), r = some (.int r7) ∧ h' = (85, I7, J7, R7) ∧ ow_RF R7 ∧ R7 25 0 = some 1 ∧ ((¬ r7 = 0 → (∀ (I8 : Nat → Nat → Int32), I8 = ow_u I7 13 6 ((I7 13 6) ||| ((1 : Int32) <<< ((I7 13 8) &&& 31))) → (ow_AM M_Told_addVeiled d [.ref 14, .int (I8 13 8)] (85, I8, J7, R7) (fun r h' => ∃ (I9 : Nat → Nat → Int32) (J9 : Nat → Nat → Int64) (R9 : Nat → Nat → Option Nat), r = none ∧ h' = (85, I9, J9, R9) ∧ ow_RF R9 ∧ R9 25 0 = some 1 ∧ Q (some (.int 1)) (85, I9, J9, R9))))) ∧ (r7 = 0 → Q (some (.int 0)) (85, I7, J7, R7)))))))) ∧ (¬ (I 14 7) < 3 → (ow_AM M_Reader_fail d [.ref 13, .int 5] (85, I, J, R) (fun r h' => ∃ (r10 : Int32) (I10 : Nat → Nat → Int32) (J10 : Nat → Nat → Int64) (R10 : Nat → Nat → Option Nat), r = some (.int r10) ∧ h' = (85, I10, J10, R10) ∧ ow_RF R10 ∧ R10 25 0 = some 1 ∧ ((r10 = 0 ∨ r10 = 1) ∧ Q (some (.int r10)) (85, I10, J10, R10))))))) : ow_AM M_Reader_readVeiled (d + 1) [.ref 13] (85, I, J, R) Q := by
  refine ow_enter (by decide) (Nat.le_of_ble_eq_true rfl) ?_
  show ow_AW ow_Y0 (ow_Z Q) M_Reader_readVeiled (d + 1) 0 0 0 [(0, .ref 13)] [] (85, I, J, R) 0 0
  refine ow_aload_n 0 rfl d_Reader_readVeiled_0 ?_
  refine ow_gR (a := 14) 72 d_Reader_readVeiled_1 rfl rfl (by decide) rfl ⟨rfl, hR 13 0 (by decide)⟩ ?_
  refine ow_gI 53 d_Reader_readVeiled_4 rfl rfl (by decide) rfl (Or.inl rfl) ?_
  refine ow_iconst (v := 3) (by decide) d_Reader_readVeiled_7 ?_
  refine ow_icmp_lt (tgt := 17) d_Reader_readVeiled_8 (by decide) (fun c => ?_) (fun c => ?_)
  · replace T := T.1 c
    refine ow_aload_n 0 rfl d_Reader_readVeiled_17 ?_
    refine ow_gR (a := 25) 74 d_Reader_readVeiled_18 rfl rfl (by decide) rfl ⟨rfl, hR 13 1 (by decide)⟩ ?_
    refine ow_callV (b := 25) (cq := 7) (As := []) (rest := []) (d2 := d) d_Reader_readVeiled_21 l_Reader_73 v_Tokens_advance (show 25 < 85 by decide) rfl (by decide) rfl (Nat.le_of_ble_eq_true rfl) (Nat.le_refl _) ⟨Nat.le_refl _, Nat.le_refl _⟩ (ow_mono T ?_)
    rintro r h' ⟨I6, J6, R6, rfl, rfl, hR6, hTx, T⟩
    show ow_AW ow_Y0 (ow_Z Q) M_Reader_readVeiled (d + 1) 0 0 24 [(0, .ref 13)] [] (85, I6, J6, R6) 0 0
    refine ow_aload_n 0 rfl d_Reader_readVeiled_24 ?_
    refine ow_aload_n 0 rfl d_Reader_readVeiled_25 ?_
    refine ow_gI 79 d_Reader_readVeiled_26 rfl rfl (by decide) rfl (Or.inl rfl) ?_
    refine ow_callV (b := 13) (cq := 3) (As := [.int (I6 13 6)]) (rest := []) (d2 := d) d_Reader_readVeiled_29 l_Reader_156 v_Reader_takeFolly (show 13 < 85 by decide) rfl (by decide) rfl (Nat.le_of_ble_eq_true rfl) (Nat.le_refl _) ⟨Nat.le_refl _, Nat.le_refl _⟩ (ow_mono T ?_)
    rintro r h' ⟨r7, I7, J7, R7, rfl, rfl, hR7, hTx, T⟩
    show ow_AW ow_Y0 (ow_Z Q) M_Reader_readVeiled (d + 1) 0 0 32 [(0, .ref 13)] [.int r7] (85, I7, J7, R7) 0 0
    refine ow_if_ne (tgt := 37) d_Reader_readVeiled_32 (by decide) (fun c => ?_) (fun c => ?_)
    · replace T := T.1 c
      refine ow_aload_n 0 rfl d_Reader_readVeiled_37 ?_
      refine ow_dup rfl d_Reader_readVeiled_38 ?_
      refine ow_gI 79 d_Reader_readVeiled_39 rfl rfl (by decide) rfl (Or.inl rfl) ?_
      refine ow_iconst (v := 1) (by decide) d_Reader_readVeiled_42 ?_
      refine ow_aload_n 0 rfl d_Reader_readVeiled_43 ?_
      refine ow_gI 81 d_Reader_readVeiled_44 rfl rfl (by decide) rfl (Or.inl rfl) ?_
      refine ow_ishl d_Reader_readVeiled_47 ?_
      refine ow_ior d_Reader_readVeiled_48 ?_
      refine ow_pI 79 d_Reader_readVeiled_49 rfl rfl (by decide) rfl rfl rfl ?_
      obtain ⟨I8, eI8⟩ : ∃ uu, uu = ow_u I7 13 6 ((I7 13 6) ||| ((1 : Int32) <<< ((I7 13 8) &&& 31))) := ⟨_, rfl⟩
      replace T := T I8 eI8
      rw [← eI8]
      refine ow_aload_n 0 rfl d_Reader_readVeiled_52 ?_
      refine ow_gR (a := 14) 72 d_Reader_readVeiled_53 rfl rfl (by decide) rfl ⟨rfl, hR7 13 0 (by decide)⟩ ?_
      refine ow_aload_n 0 rfl d_Reader_readVeiled_56 ?_
      refine ow_gI 81 d_Reader_readVeiled_57 rfl rfl (by decide) rfl (Or.inl rfl) ?_
      refine ow_callV (b := 14) (cq := 8) (As := [.int (I8 13 8)]) (rest := []) (d2 := d) d_Reader_readVeiled_60 l_Reader_175 v_Told_addVeiled (show 14 < 85 by decide) rfl (by decide) rfl (Nat.le_of_ble_eq_true rfl) (Nat.le_refl _) ⟨Nat.le_refl _, Nat.le_refl _⟩ (ow_mono T ?_)
      rintro r h' ⟨I9, J9, R9, rfl, rfl, hR9, hTx, T⟩
      show ow_AW ow_Y0 (ow_Z Q) M_Reader_readVeiled (d + 1) 0 0 63 [(0, .ref 13)] [] (85, I9, J9, R9) 0 0
      refine ow_iconst (v := 1) (by decide) d_Reader_readVeiled_63 ?_
      exact ow_zret d_Reader_readVeiled_64 rfl (by decide) T
    · replace T := T.2 c
      refine ow_iconst (v := 0) (by decide) d_Reader_readVeiled_35 ?_
      exact ow_zret d_Reader_readVeiled_36 rfl (by decide) T
  · replace T := T.2 c
    refine ow_aload_n 0 rfl d_Reader_readVeiled_11 ?_
    refine ow_iconst (v := 5) (by decide) d_Reader_readVeiled_12 ?_
    refine ow_callV (b := 13) (cq := 3) (As := [.int 5]) (rest := []) (d2 := d) d_Reader_readVeiled_13 l_Reader_69 v_Reader_fail (show 13 < 85 by decide) rfl (by decide) rfl (Nat.le_of_ble_eq_true rfl) (Nat.le_refl _) ⟨Nat.le_refl _, Nat.le_refl _⟩ (ow_mono T ?_)
    rintro r h' ⟨r10, I10, J10, R10, rfl, rfl, hR10, hTx, T⟩
    show ow_AW ow_Y0 (ow_Z Q) M_Reader_readVeiled (d + 1) 0 0 16 [(0, .ref 13)] [.int r10] (85, I10, J10, R10) 0 0
    exact ow_zret d_Reader_readVeiled_16 rfl T.1 T.2
set_option maxRecDepth 4000 in
theorem t_Reader_readSigned {d : Nat} {I : Nat → Nat → Int32} {J : Nat → Nat → Int64} {R : Nat → Nat → Option Nat} {Q : Option Value → ow_H → Prop}   (hR : ow_RF R) (hTx : R 25 0 = some 1) (T : (((I 14 9) < 5 → (ow_AM M_Tokens_advance d [.ref 25] (85, I, J, R) (fun r h' => ∃ (I7 : Nat → Nat → Int32) (J7 : Nat → Nat → Int64) (R7 : Nat → Nat → Option Nat), r = none ∧ h' = (85, I7, J7, R7) ∧ ow_RF R7 ∧ R7 25 0 = some 1 ∧ (ow_AM M_Reader_takeFolly d [.ref 13, .int 0] (85, I7, J7, R7) (fun r h' => ∃ (r8 : Int32) (I8 : Nat → Nat → Int32) (J8 : Nat → Nat → Int64) (R8 : Nat → Nat → Option Nat), r = some (.int r8) ∧ h' = (85, I8, J8, R8) ∧ ow_RF R8 ∧ R8 25 0 = some 1 ∧ ((¬ r8 = 0 → (ow_AM M_Reader_takeAnswer d [.ref 13, .int 0] (85, I8, J8, R8) (fun r h' => ∃ (r9 : Int32) (I9 : Nat → Nat → Int32) (J9 : Nat → Nat → Int64) (R9 : Nat → Nat → Option Nat), r = some (.int r9) ∧ h' = (85, I9, J9, R9) ∧ ow_RF R9 ∧ R9 25 0 = some 1 ∧ ((¬ r9 = 0 → (ow_AM M_Reader_takeAnswer d [.ref 13, .int 1] (85, I9, J9, R9) (fun r h' => ∃ (r10 : Int32) (I10 : Nat → Nat → Int32) (J10 : Nat → Nat → Int64) (R10 : Nat → Nat → Option Nat), r = some (.int r10) ∧ h' = (85, I10, J10, R10) ∧ ow_RF R10 ∧ R10 25 0 = some 1 ∧ ((¬ r10 = 0 → (ow_AM M_Told_addSigned d [.ref 14, .int ((2 * (I8 13 8)) + (I9 13 8)), .int (I10 13 8)] (85, I10, J10, R10) (fun r h' => ∃ (I11 : Nat → Nat → Int32) (J11 : Nat → Nat → Int64) (R11 : Nat → Nat → Option Nat), r = none ∧ h' = (85, I11, J11, R11) ∧ ow_RF R11 ∧ R11 25 0 = some 1 ∧ Q (some (.int 1)) (85, I11, J11, R11)))) ∧ (r10 = 0 → Q (some (.int 0)) (85, I10, J10, R10)))))) ∧ (r9 = 0 → Q (some (.int 0)) (85, I9, J9, R9)))))) ∧ (r8 = 0 → Q (some (.int 0)) (85, I8, J8, R8)))))))) ∧ (¬ (I 14 9) < 5 → (ow_AM M_Reader_fail d [.ref 13, .int 5] (85, I, J, R) (fun r h' => ∃ (r12 : Int32) (I12 : Nat → Nat → Int32) (J12 : Nat → Nat → Int64) (R12 : Nat → Nat → Option Nat), r = some (.int r12) ∧ h' = (85, I12, J12, R12) ∧ ow_RF R12 ∧ R12 25 0 = some 1 ∧ ((r12 = 0 ∨ r12 = 1) ∧ Q (some (.int r12)) (85, I12, J12, R12))))))) : ow_AM M_Reader_readSigned (d + 1) [.ref 13] (85, I, J, R) Q := by
  refine ow_enter (by decide) (Nat.le_of_ble_eq_true rfl) ?_
  show ow_AW ow_Y0 (ow_Z Q) M_Reader_readSigned (d + 1) 0 0 0 [(0, .ref 13)] [] (85, I, J, R) 0 0
  refine ow_aload_n 0 rfl d_Reader_readSigned_0 ?_
  refine ow_gR (a := 14) 72 d_Reader_readSigned_1 rfl rfl (by decide) rfl ⟨rfl, hR 13 0 (by decide)⟩ ?_
  refine ow_gI 59 d_Reader_readSigned_4 rfl rfl (by decide) rfl (Or.inl rfl) ?_
  refine ow_iconst (v := 5) (by decide) d_Reader_readSigned_7 ?_
  refine ow_icmp_lt (tgt := 17) d_Reader_readSigned_8 (by decide) (fun c => ?_) (fun c => ?_)
  · replace T := T.1 c
    refine ow_aload_n 0 rfl d_Reader_readSigned_17 ?_
    refine ow_gR (a := 25) 74 d_Reader_readSigned_18 rfl rfl (by decide) rfl ⟨rfl, hR 13 1 (by decide)⟩ ?_
    refine ow_callV (b := 25) (cq := 7) (As := []) (rest := []) (d2 := d) d_Reader_readSigned_21 l_Reader_73 v_Tokens_advance (show 25 < 85 by decide) rfl (by decide) rfl (Nat.le_of_ble_eq_true rfl) (Nat.le_refl _) ⟨Nat.le_refl _, Nat.le_refl _⟩ (ow_mono T ?_)
    rintro r h' ⟨I7, J7, R7, rfl, rfl, hR7, hTx, T⟩
    show ow_AW ow_Y0 (ow_Z Q) M_Reader_readSigned (d + 1) 0 0 24 [(0, .ref 13)] [] (85, I7, J7, R7) 0 0
    refine ow_aload_n 0 rfl d_Reader_readSigned_24 ?_
    refine ow_iconst (v := 0) (by decide) d_Reader_readSigned_25 ?_
    refine ow_callV (b := 13) (cq := 3) (As := [.int 0]) (rest := []) (d2 := d) d_Reader_readSigned_26 l_Reader_156 v_Reader_takeFolly (show 13 < 85 by decide) rfl (by decide) rfl (Nat.le_of_ble_eq_true rfl) (Nat.le_refl _) ⟨Nat.le_refl _, Nat.le_refl _⟩ (ow_mono T ?_)
    rintro r h' ⟨r8, I8, J8, R8, rfl, rfl, hR8, hTx, T⟩
    show ow_AW ow_Y0 (ow_Z Q) M_Reader_readSigned (d + 1) 0 0 29 [(0, .ref 13)] [.int r8] (85, I8, J8, R8) 0 0
    refine ow_if_ne (tgt := 34) d_Reader_readSigned_29 (by decide) (fun c => ?_) (fun c => ?_)
    · replace T := T.1 c
      refine ow_aload_n 0 rfl d_Reader_readSigned_34 ?_
      refine ow_gI 81 d_Reader_readSigned_35 rfl rfl (by decide) rfl (Or.inl rfl) ?_
      refine ow_istore_n (ls2 := [(1, .int (I8 13 8)), (0, .ref 13)]) d_Reader_readSigned_38 (by decide) rfl ?_
      refine ow_aload_n 1 rfl d_Reader_readSigned_39 ?_
      refine ow_iconst (v := 0) (by decide) d_Reader_readSigned_40 ?_
      refine ow_callV (b := 13) (cq := 3) (As := [.int 0]) (rest := []) (d2 := d) d_Reader_readSigned_41 l_Reader_181 v_Reader_takeAnswer (show 13 < 85 by decide) rfl (by decide) rfl (Nat.le_of_ble_eq_true rfl) (Nat.le_refl _) ⟨Nat.le_refl _, Nat.le_refl _⟩ (ow_mono T ?_)
      rintro r h' ⟨r9, I9, J9, R9, rfl, rfl, hR9, hTx, T⟩
      show ow_AW ow_Y0 (ow_Z Q) M_Reader_readSigned (d + 1) 0 0 44 [(1, .int (I8 13 8)), (0, .ref 13)] [.int r9] (85, I9, J9, R9) 0 0
      refine ow_if_ne (tgt := 49) d_Reader_readSigned_44 (by decide) (fun c => ?_) (fun c => ?_)
      · replace T := T.1 c
        refine ow_iconst (v := 2) (by decide) d_Reader_readSigned_49 ?_
        refine ow_iload_n 0 rfl d_Reader_readSigned_50 ?_
        refine ow_imul d_Reader_readSigned_51 ?_
        refine ow_aload_n 1 rfl d_Reader_readSigned_52 ?_
        refine ow_gI 81 d_Reader_readSigned_53 rfl rfl (by decide) rfl (Or.inl rfl) ?_
        refine ow_iadd d_Reader_readSigned_56 ?_
        refine ow_istore_n (ls2 := [(2, .int ((2 * (I8 13 8)) + (I9 13 8))), (1, .int (I8 13 8)), (0, .ref 13)]) d_Reader_readSigned_57 (by decide) rfl ?_
        refine ow_aload_n 2 rfl d_Reader_readSigned_58 ?_
        refine ow_iconst (v := 1) (by decide) d_Reader_readSigned_59 ?_
        refine ow_callV (b := 13) (cq := 3) (As := [.int 1]) (rest := []) (d2 := d) d_Reader_readSigned_60 l_Reader_181 v_Reader_takeAnswer (show 13 < 85 by decide) rfl (by decide) rfl (Nat.le_of_ble_eq_true rfl) (Nat.le_refl _) ⟨Nat.le_refl _, Nat.le_refl _⟩ (ow_mono T ?_)
        rintro r h' ⟨r10, I10, J10, R10, rfl, rfl, hR10, hTx, T⟩
        show ow_AW ow_Y0 (ow_Z Q) M_Reader_readSigned (d + 1) 0 0 63 [(2, .int ((2 * (I8 13 8)) + (I9 13 8))), (1, .int (I8 13 8)), (0, .ref 13)] [.int r10] (85, I10, J10, R10) 0 0
        refine ow_if_ne (tgt := 68) d_Reader_readSigned_63 (by decide) (fun c => ?_) (fun c => ?_)
        · replace T := T.1 c
          refine ow_aload_n 2 rfl d_Reader_readSigned_68 ?_
          refine ow_gR (a := 14) 72 d_Reader_readSigned_69 rfl rfl (by decide) rfl ⟨rfl, hR10 13 0 (by decide)⟩ ?_
          refine ow_iload_n 0 rfl d_Reader_readSigned_72 ?_
          refine ow_aload_n 2 rfl d_Reader_readSigned_73 ?_
          refine ow_gI 81 d_Reader_readSigned_74 rfl rfl (by decide) rfl (Or.inl rfl) ?_
          refine ow_callV (b := 14) (cq := 8) (As := [.int ((2 * (I8 13 8)) + (I9 13 8)), .int (I10 13 8)]) (rest := []) (d2 := d) d_Reader_readSigned_77 l_Reader_185 v_Told_addSigned (show 14 < 85 by decide) rfl (by decide) rfl (Nat.le_of_ble_eq_true rfl) (Nat.le_refl _) ⟨Nat.le_refl _, Nat.le_refl _⟩ (ow_mono T ?_)
          rintro r h' ⟨I11, J11, R11, rfl, rfl, hR11, hTx, T⟩
          show ow_AW ow_Y0 (ow_Z Q) M_Reader_readSigned (d + 1) 0 0 80 [(2, .int ((2 * (I8 13 8)) + (I9 13 8))), (1, .int (I8 13 8)), (0, .ref 13)] [] (85, I11, J11, R11) 0 0
          refine ow_iconst (v := 1) (by decide) d_Reader_readSigned_80 ?_
          exact ow_zret d_Reader_readSigned_81 rfl (by decide) T
        · replace T := T.2 c
          refine ow_iconst (v := 0) (by decide) d_Reader_readSigned_66 ?_
          exact ow_zret d_Reader_readSigned_67 rfl (by decide) T
      · replace T := T.2 c
        refine ow_iconst (v := 0) (by decide) d_Reader_readSigned_47 ?_
        exact ow_zret d_Reader_readSigned_48 rfl (by decide) T
    · replace T := T.2 c
      refine ow_iconst (v := 0) (by decide) d_Reader_readSigned_32 ?_
      exact ow_zret d_Reader_readSigned_33 rfl (by decide) T
  · replace T := T.2 c
    refine ow_aload_n 0 rfl d_Reader_readSigned_11 ?_
    refine ow_iconst (v := 5) (by decide) d_Reader_readSigned_12 ?_
    refine ow_callV (b := 13) (cq := 3) (As := [.int 5]) (rest := []) (d2 := d) d_Reader_readSigned_13 l_Reader_69 v_Reader_fail (show 13 < 85 by decide) rfl (by decide) rfl (Nat.le_of_ble_eq_true rfl) (Nat.le_refl _) ⟨Nat.le_refl _, Nat.le_refl _⟩ (ow_mono T ?_)
    rintro r h' ⟨r12, I12, J12, R12, rfl, rfl, hR12, hTx, T⟩
    show ow_AW ow_Y0 (ow_Z Q) M_Reader_readSigned (d + 1) 0 0 16 [(0, .ref 13)] [.int r12] (85, I12, J12, R12) 0 0
    exact ow_zret d_Reader_readSigned_16 rfl T.1 T.2
set_option maxRecDepth 4000 in
theorem t_Reader_passWord {d : Nat} {I : Nat → Nat → Int32} {J : Nat → Nat → Int64} {R : Nat → Nat → Option Nat} {Q : Option Value → ow_H → Prop} {i : Nat} (hi : i < ow_ns) (hR : ow_RF R) (hTx : R 25 0 = some 1) (T : (ow_AM M_Tokens_isWord d [.ref 25, .ref (1000 + i)] (85, I, J, R) (fun r h' => ∃ (r4 : Int32) (I4 : Nat → Nat → Int32) (J4 : Nat → Nat → Int64) (R4 : Nat → Nat → Option Nat), r = some (.int r4) ∧ h' = (85, I4, J4, R4) ∧ ow_RF R4 ∧ R4 25 0 = some 1 ∧ ((¬ r4 = 0 → (ow_AM M_Tokens_advance d [.ref 25] (85, I4, J4, R4) (fun r h' => ∃ (I5 : Nat → Nat → Int32) (J5 : Nat → Nat → Int64) (R5 : Nat → Nat → Option Nat), r = none ∧ h' = (85, I5, J5, R5) ∧ ow_RF R5 ∧ R5 25 0 = some 1 ∧ Q (some (.int 1)) (85, I5, J5, R5)))) ∧ (r4 = 0 → (ow_AM M_Reader_fail d [.ref 13, .int 1] (85, I4, J4, R4) (fun r h' => ∃ (r6 : Int32) (I6 : Nat → Nat → Int32) (J6 : Nat → Nat → Int64) (R6 : Nat → Nat → Option Nat), r = some (.int r6) ∧ h' = (85, I6, J6, R6) ∧ ow_RF R6 ∧ R6 25 0 = some 1 ∧ ((r6 = 0 ∨ r6 = 1) ∧ Q (some (.int r6)) (85, I6, J6, R6))))))))) : ow_AM M_Reader_passWord (d + 1) [.ref 13, .ref (1000 + i)] (85, I, J, R) Q := by
  refine ow_enter (by decide) (Nat.le_of_ble_eq_true rfl) ?_
  show ow_AW ow_Y0 (ow_Z Q) M_Reader_passWord (d + 1) 0 0 0 [(0, .ref 13), (1, .ref (1000 + i))] [] (85, I, J, R) 0 0
  refine ow_aload_n 0 rfl d_Reader_passWord_0 ?_
  refine ow_gR (a := 25) 74 d_Reader_passWord_1 rfl rfl (by decide) rfl ⟨rfl, hR 13 1 (by decide)⟩ ?_
  refine ow_aload_n 1 rfl d_Reader_passWord_4 ?_
  refine ow_callV (b := 25) (cq := 7) (As := [.ref (1000 + i)]) (rest := []) (d2 := d) d_Reader_passWord_5 l_Reader_107 v_Tokens_isWord (show 25 < 85 by decide) rfl (by decide) rfl (Nat.le_of_ble_eq_true rfl) (Nat.le_refl _) ⟨Nat.le_refl _, Nat.le_refl _⟩ (ow_mono T ?_)
  rintro r h' ⟨r4, I4, J4, R4, rfl, rfl, hR4, hTx, T⟩
  show ow_AW ow_Y0 (ow_Z Q) M_Reader_passWord (d + 1) 0 0 8 [(0, .ref 13), (1, .ref (1000 + i))] [.int r4] (85, I4, J4, R4) 0 0
  refine ow_if_ne (tgt := 17) d_Reader_passWord_8 (by decide) (fun c => ?_) (fun c => ?_)
  · replace T := T.1 c
    refine ow_aload_n 0 rfl d_Reader_passWord_17 ?_
    refine ow_gR (a := 25) 74 d_Reader_passWord_18 rfl rfl (by decide) rfl ⟨rfl, hR4 13 1 (by decide)⟩ ?_
    refine ow_callV (b := 25) (cq := 7) (As := []) (rest := []) (d2 := d) d_Reader_passWord_21 l_Reader_73 v_Tokens_advance (show 25 < 85 by decide) rfl (by decide) rfl (Nat.le_of_ble_eq_true rfl) (Nat.le_refl _) ⟨Nat.le_refl _, Nat.le_refl _⟩ (ow_mono T ?_)
    rintro r h' ⟨I5, J5, R5, rfl, rfl, hR5, hTx, T⟩
    show ow_AW ow_Y0 (ow_Z Q) M_Reader_passWord (d + 1) 0 0 24 [(0, .ref 13), (1, .ref (1000 + i))] [] (85, I5, J5, R5) 0 0
    refine ow_iconst (v := 1) (by decide) d_Reader_passWord_24 ?_
    exact ow_zret d_Reader_passWord_25 rfl (by decide) T
  · replace T := T.2 c
    refine ow_aload_n 0 rfl d_Reader_passWord_11 ?_
    refine ow_iconst (v := 1) (by decide) d_Reader_passWord_12 ?_
    refine ow_callV (b := 13) (cq := 3) (As := [.int 1]) (rest := []) (d2 := d) d_Reader_passWord_13 l_Reader_69 v_Reader_fail (show 13 < 85 by decide) rfl (by decide) rfl (Nat.le_of_ble_eq_true rfl) (Nat.le_refl _) ⟨Nat.le_refl _, Nat.le_refl _⟩ (ow_mono T ?_)
    rintro r h' ⟨r6, I6, J6, R6, rfl, rfl, hR6, hTx, T⟩
    show ow_AW ow_Y0 (ow_Z Q) M_Reader_passWord (d + 1) 0 0 16 [(0, .ref 13), (1, .ref (1000 + i))] [.int r6] (85, I6, J6, R6) 0 0
    exact ow_zret d_Reader_passWord_16 rfl T.1 T.2
set_option maxRecDepth 4000 in
theorem t_Reader_takeWhole {d : Nat} {I : Nat → Nat → Int32} {J : Nat → Nat → Int64} {R : Nat → Nat → Option Nat} {Q : Option Value → ow_H → Prop} {p1 : Int32}  (hR : ow_RF R) (hTx : R 25 0 = some 1) (T : (((I 25 3) = 2 → (ow_AM M_Tokens_wholeValue d [.ref 25] (85, I, J, R) (fun r h' => ∃ (r6 : Int32) (I6 : Nat → Nat → Int32) (J6 : Nat → Nat → Int64) (R6 : Nat → Nat → Option Nat), r = some (.int r6) ∧ h' = (85, I6, J6, R6) ∧ ow_RF R6 ∧ R6 25 0 = some 1 ∧ ((r6 ≤ p1 → (∀ (I7 : Nat → Nat → Int32), I7 = ow_u I6 13 8 r6 → (ow_AM M_Tokens_advance d [.ref 25] (85, I7, J6, R6) (fun r h' => ∃ (I8 : Nat → Nat → Int32) (J8 : Nat → Nat → Int64) (R8 : Nat → Nat → Option Nat), r = none ∧ h' = (85, I8, J8, R8) ∧ ow_RF R8 ∧ R8 25 0 = some 1 ∧ Q (some (.int 1)) (85, I8, J8, R8))))) ∧ (¬ r6 ≤ p1 → (ow_AM M_Reader_fail d [.ref 13, .int 4] (85, I6, J6, R6) (fun r h' => ∃ (r9 : Int32) (I9 : Nat → Nat → Int32) (J9 : Nat → Nat → Int64) (R9 : Nat → Nat → Option Nat), r = some (.int r9) ∧ h' = (85, I9, J9, R9) ∧ ow_RF R9 ∧ R9 25 0 = some 1 ∧ ((r9 = 0 ∨ r9 = 1) ∧ Q (some (.int r9)) (85, I9, J9, R9))))))))) ∧ (¬ (I 25 3) = 2 → (ow_AM M_Reader_fail d [.ref 13, .int 1] (85, I, J, R) (fun r h' => ∃ (r10 : Int32) (I10 : Nat → Nat → Int32) (J10 : Nat → Nat → Int64) (R10 : Nat → Nat → Option Nat), r = some (.int r10) ∧ h' = (85, I10, J10, R10) ∧ ow_RF R10 ∧ R10 25 0 = some 1 ∧ ((r10 = 0 ∨ r10 = 1) ∧ Q (some (.int r10)) (85, I10, J10, R10))))))) : ow_AM M_Reader_takeWhole (d + 1) [.ref 13, .int p1] (85, I, J, R) Q := by
  refine ow_enter (by decide) (Nat.le_of_ble_eq_true rfl) ?_
  show ow_AW ow_Y0 (ow_Z Q) M_Reader_takeWhole (d + 1) 0 0 0 [(0, .ref 13), (1, .int p1)] [] (85, I, J, R) 0 0
  refine ow_aload_n 0 rfl d_Reader_takeWhole_0 ?_
  refine ow_gR (a := 25) 74 d_Reader_takeWhole_1 rfl rfl (by decide) rfl ⟨rfl, hR 13 1 (by decide)⟩ ?_
  refine ow_gI 68 d_Reader_takeWhole_4 rfl rfl (by decide) rfl (Or.inl rfl) ?_
  refine ow_iconst (v := 2) (by decide) d_Reader_takeWhole_7 ?_
  refine ow_icmp_eq (tgt := 17) d_Reader_takeWhole_8 (by decide) (fun c => ?_) (fun c => ?_)
  · replace T := T.1 c
    refine ow_aload_n 0 rfl d_Reader_takeWhole_17 ?_
    refine ow_gR (a := 25) 74 d_Reader_takeWhole_18 rfl rfl (by decide) rfl ⟨rfl, hR 13 1 (by decide)⟩ ?_
    refine ow_callV (b := 25) (cq := 7) (As := []) (rest := []) (d2 := d) d_Reader_takeWhole_21 l_Reader_188 v_Tokens_wholeValue (show 25 < 85 by decide) rfl (by decide) rfl (Nat.le_of_ble_eq_true rfl) (Nat.le_refl _) ⟨Nat.le_refl _, Nat.le_refl _⟩ (ow_mono T ?_)
    rintro r h' ⟨r6, I6, J6, R6, rfl, rfl, hR6, hTx, T⟩
    show ow_AW ow_Y0 (ow_Z Q) M_Reader_takeWhole (d + 1) 0 0 24 [(0, .ref 13), (1, .int p1)] [.int r6] (85, I6, J6, R6) 0 0
    refine ow_istore_n (ls2 := [(2, .int r6), (0, .ref 13), (1, .int p1)]) d_Reader_takeWhole_24 (by decide) rfl ?_
    refine ow_iload_n 0 rfl d_Reader_takeWhole_25 ?_
    refine ow_iload_n 2 rfl d_Reader_takeWhole_26 ?_
    refine ow_icmp_le (tgt := 36) d_Reader_takeWhole_27 (by decide) (fun c => ?_) (fun c => ?_)
    · replace T := T.1 c
      refine ow_aload_n 1 rfl d_Reader_takeWhole_36 ?_
      refine ow_iload_n 0 rfl d_Reader_takeWhole_37 ?_
      refine ow_pI 81 d_Reader_takeWhole_38 rfl rfl (by decide) rfl rfl rfl ?_
      obtain ⟨I7, eI7⟩ : ∃ uu, uu = ow_u I6 13 8 r6 := ⟨_, rfl⟩
      replace T := T I7 eI7
      rw [← eI7]
      refine ow_aload_n 1 rfl d_Reader_takeWhole_41 ?_
      refine ow_gR (a := 25) 74 d_Reader_takeWhole_42 rfl rfl (by decide) rfl ⟨rfl, hR6 13 1 (by decide)⟩ ?_
      refine ow_callV (b := 25) (cq := 7) (As := []) (rest := []) (d2 := d) d_Reader_takeWhole_45 l_Reader_73 v_Tokens_advance (show 25 < 85 by decide) rfl (by decide) rfl (Nat.le_of_ble_eq_true rfl) (Nat.le_refl _) ⟨Nat.le_refl _, Nat.le_refl _⟩ (ow_mono T ?_)
      rintro r h' ⟨I8, J8, R8, rfl, rfl, hR8, hTx, T⟩
      show ow_AW ow_Y0 (ow_Z Q) M_Reader_takeWhole (d + 1) 0 0 48 [(2, .int r6), (0, .ref 13), (1, .int p1)] [] (85, I8, J8, R8) 0 0
      refine ow_iconst (v := 1) (by decide) d_Reader_takeWhole_48 ?_
      exact ow_zret d_Reader_takeWhole_49 rfl (by decide) T
    · replace T := T.2 c
      refine ow_aload_n 1 rfl d_Reader_takeWhole_30 ?_
      refine ow_iconst (v := 4) (by decide) d_Reader_takeWhole_31 ?_
      refine ow_callV (b := 13) (cq := 3) (As := [.int 4]) (rest := []) (d2 := d) d_Reader_takeWhole_32 l_Reader_69 v_Reader_fail (show 13 < 85 by decide) rfl (by decide) rfl (Nat.le_of_ble_eq_true rfl) (Nat.le_refl _) ⟨Nat.le_refl _, Nat.le_refl _⟩ (ow_mono T ?_)
      rintro r h' ⟨r9, I9, J9, R9, rfl, rfl, hR9, hTx, T⟩
      show ow_AW ow_Y0 (ow_Z Q) M_Reader_takeWhole (d + 1) 0 0 35 [(2, .int r6), (0, .ref 13), (1, .int p1)] [.int r9] (85, I9, J9, R9) 0 0
      exact ow_zret d_Reader_takeWhole_35 rfl T.1 T.2
  · replace T := T.2 c
    refine ow_aload_n 0 rfl d_Reader_takeWhole_11 ?_
    refine ow_iconst (v := 1) (by decide) d_Reader_takeWhole_12 ?_
    refine ow_callV (b := 13) (cq := 3) (As := [.int 1]) (rest := []) (d2 := d) d_Reader_takeWhole_13 l_Reader_69 v_Reader_fail (show 13 < 85 by decide) rfl (by decide) rfl (Nat.le_of_ble_eq_true rfl) (Nat.le_refl _) ⟨Nat.le_refl _, Nat.le_refl _⟩ (ow_mono T ?_)
    rintro r h' ⟨r10, I10, J10, R10, rfl, rfl, hR10, hTx, T⟩
    show ow_AW ow_Y0 (ow_Z Q) M_Reader_takeWhole (d + 1) 0 0 16 [(0, .ref 13), (1, .int p1)] [.int r10] (85, I10, J10, R10) 0 0
    exact ow_zret d_Reader_takeWhole_16 rfl T.1 T.2
set_option maxRecDepth 4000 in
theorem t_Reader_takeNewName {d : Nat} {I : Nat → Nat → Int32} {J : Nat → Nat → Int64} {R : Nat → Nat → Option Nat} {Q : Option Value → ow_H → Prop}   (hR : ow_RF R) (hTx : R 25 0 = some 1) (T : ((¬ (I 25 3) = 1 → (ow_AM M_Reader_fail d [.ref 13, .int 1] (85, I, J, R) (fun r h' => ∃ (r11 : Int32) (I11 : Nat → Nat → Int32) (J11 : Nat → Nat → Int64) (R11 : Nat → Nat → Option Nat), r = some (.int r11) ∧ h' = (85, I11, J11, R11) ∧ ow_RF R11 ∧ R11 25 0 = some 1 ∧ ((r11 = 0 ∨ r11 = 1) ∧ Q (some (.int r11)) (85, I11, J11, R11))))) ∧ ((I 25 3) = 1 → (ow_AM M_Reader_lineOf d [.ref 13] (85, I, J, R) (fun r h' => ∃ (r12 : Int32) (I12 : Nat → Nat → Int32) (J12 : Nat → Nat → Int64) (R12 : Nat → Nat → Option Nat), r = some (.int r12) ∧ h' = (85, I12, J12, R12) ∧ ow_RF R12 ∧ R12 25 0 = some 1 ∧ ((r12 = 0 → (ow_AM M_Tokens_wordCode d [.ref 25] (85, I12, J12, R12) (fun r h' => ∃ (r13 : Int64) (I13 : Nat → Nat → Int32) (J13 : Nat → Nat → Int64) (R13 : Nat → Nat → Option Nat), r = some (.long r13) ∧ h' = (85, I13, J13, R13) ∧ ow_RF R13 ∧ R13 25 0 = some 1 ∧ (∀ (J14 : Nat → Nat → Int64), J14 = ow_u J13 13 7 r13 → (ow_AM M_Reader_follyNamed d [.ref 13, .long (J14 13 7)] (85, I13, J14, R13) (fun r h' => ∃ (r15 : Int32) (I15 : Nat → Nat → Int32) (J15 : Nat → Nat → Int64) (R15 : Nat → Nat → Option Nat), r = some (.int r15) ∧ h' = (85, I15, J15, R15) ∧ ow_RF R15 ∧ R15 25 0 = some 1 ∧ ((¬ r15 = (-1) → (ow_AM M_Reader_fail d [.ref 13, .int 3] (85, I15, J15, R15) (fun r h' => ∃ (r16 : Int32) (I16 : Nat → Nat → Int32) (J16 : Nat → Nat → Int64) (R16 : Nat → Nat → Option Nat), r = some (.int r16) ∧ h' = (85, I16, J16, R16) ∧ ow_RF R16 ∧ R16 25 0 = some 1 ∧ ((r16 = 0 ∨ r16 = 1) ∧ Q (some (.int r16)) (85, I16, J16, R16))))) ∧ (r15 = (-1) → (ow_AM M_Reader_isEstateNamed d [.ref 13, .long (J15 13 7)] (85, I15, J15, R15) (fun r h' => ∃ (r17 : Int32) (I17 : Nat → Nat → Int32) (J17 : Nat → Nat → Int64) (R17 : Nat → Nat → Option Nat), r = some (.int r17) ∧ h' = (85, I17, J17, R17) ∧ ow_RF R17 ∧ R17 25 0 = some 1 ∧ ((r17 = 0 → (ow_AM M_Tokens_advance d [.ref 25] (85, I17, J17, R17) (fun r h' => ∃ (I18 : Nat → Nat → Int32) (J18 : Nat → Nat → Int64) (R18 : Nat → Nat → Option Nat), r = none ∧ h' = (85, I18, J18, R18) ∧ ow_RF R18 ∧ R18 25 0 = some 1 ∧ Q (some (.int 1)) (85, I18, J18, R18)))) ∧ (¬ r17 = 0 → (ow_AM M_Reader_fail d [.ref 13, .int 3] (85, I17, J17, R17) (fun r h' => ∃ (r19 : Int32) (I19 : Nat → Nat → Int32) (J19 : Nat → Nat → Int64) (R19 : Nat → Nat → Option Nat), r = some (.int r19) ∧ h' = (85, I19, J19, R19) ∧ ow_RF R19 ∧ R19 25 0 = some 1 ∧ ((r19 = 0 ∨ r19 = 1) ∧ Q (some (.int r19)) (85, I19, J19, R19)))))))))))))))) ∧ (¬ r12 = 0 → (ow_AM M_Reader_fail d [.ref 13, .int 1] (85, I12, J12, R12) (fun r h' => ∃ (r20 : Int32) (I20 : Nat → Nat → Int32) (J20 : Nat → Nat → Int64) (R20 : Nat → Nat → Option Nat), r = some (.int r20) ∧ h' = (85, I20, J20, R20) ∧ ow_RF R20 ∧ R20 25 0 = some 1 ∧ ((r20 = 0 ∨ r20 = 1) ∧ Q (some (.int r20)) (85, I20, J20, R20))))))))))) : ow_AM M_Reader_takeNewName (d + 1) [.ref 13] (85, I, J, R) Q := by
  refine ow_enter (by decide) (Nat.le_of_ble_eq_true rfl) ?_
  show ow_AW ow_Y0 (ow_Z Q) M_Reader_takeNewName (d + 1) 0 0 0 [(0, .ref 13)] [] (85, I, J, R) 0 0
  refine ow_aload_n 0 rfl d_Reader_takeNewName_0 ?_
  refine ow_gR (a := 25) 74 d_Reader_takeNewName_1 rfl rfl (by decide) rfl ⟨rfl, hR 13 1 (by decide)⟩ ?_
  refine ow_gI 68 d_Reader_takeNewName_4 rfl rfl (by decide) rfl (Or.inl rfl) ?_
  refine ow_iconst (v := 1) (by decide) d_Reader_takeNewName_7 ?_
  refine ow_icmp_ne (tgt := 18) d_Reader_takeNewName_8 (by decide) (fun c => ?_) (fun c => ?_)
  · replace T := T.1 c
    refine ow_aload_n 0 rfl d_Reader_takeNewName_18 ?_
    refine ow_iconst (v := 1) (by decide) d_Reader_takeNewName_19 ?_
    refine ow_callV (b := 13) (cq := 3) (As := [.int 1]) (rest := []) (d2 := d) d_Reader_takeNewName_20 l_Reader_69 v_Reader_fail (show 13 < 85 by decide) rfl (by decide) rfl (Nat.le_of_ble_eq_true rfl) (Nat.le_refl _) ⟨Nat.le_refl _, Nat.le_refl _⟩ (ow_mono T ?_)
    rintro r h' ⟨r11, I11, J11, R11, rfl, rfl, hR11, hTx, T⟩
    show ow_AW ow_Y0 (ow_Z Q) M_Reader_takeNewName (d + 1) 0 0 23 [(0, .ref 13)] [.int r11] (85, I11, J11, R11) 0 0
    exact ow_zret d_Reader_takeNewName_23 rfl T.1 T.2
  · replace T := T.2 c
    refine ow_aload_n 0 rfl d_Reader_takeNewName_11 ?_
    refine ow_callV (b := 13) (cq := 3) (As := []) (rest := []) (d2 := d) d_Reader_takeNewName_12 l_Reader_80 v_Reader_lineOf (show 13 < 85 by decide) rfl (by decide) rfl (Nat.le_of_ble_eq_true rfl) (Nat.le_refl _) ⟨Nat.le_refl _, Nat.le_refl _⟩ (ow_mono T ?_)
    rintro r h' ⟨r12, I12, J12, R12, rfl, rfl, hR12, hTx, T⟩
    show ow_AW ow_Y0 (ow_Z Q) M_Reader_takeNewName (d + 1) 0 0 15 [(0, .ref 13)] [.int r12] (85, I12, J12, R12) 0 0
    refine ow_if_eq (tgt := 24) d_Reader_takeNewName_15 (by decide) (fun c => ?_) (fun c => ?_)
    · replace T := T.1 c
      refine ow_aload_n 0 rfl d_Reader_takeNewName_24 ?_
      refine ow_aload_n 0 rfl d_Reader_takeNewName_25 ?_
      refine ow_gR (a := 25) 74 d_Reader_takeNewName_26 rfl rfl (by decide) rfl ⟨rfl, hR12 13 1 (by decide)⟩ ?_
      refine ow_callV (b := 25) (cq := 7) (As := []) (rest := [.ref 13]) (d2 := d) d_Reader_takeNewName_29 l_Reader_191 v_Tokens_wordCode (show 25 < 85 by decide) rfl (by decide) rfl (Nat.le_of_ble_eq_true rfl) (Nat.le_refl _) ⟨Nat.le_refl _, Nat.le_refl _⟩ (ow_mono T ?_)
      rintro r h' ⟨r13, I13, J13, R13, rfl, rfl, hR13, hTx, T⟩
      show ow_AW ow_Y0 (ow_Z Q) M_Reader_takeNewName (d + 1) 0 0 32 [(0, .ref 13)] [.long r13, .ref 13] (85, I13, J13, R13) 0 0
      refine ow_pJ 80 d_Reader_takeNewName_32 rfl rfl (by decide) rfl rfl rfl ?_
      obtain ⟨J14, eJ14⟩ : ∃ uu, uu = ow_u J13 13 7 r13 := ⟨_, rfl⟩
      replace T := T J14 eJ14
      rw [← eJ14]
      refine ow_aload_n 0 rfl d_Reader_takeNewName_35 ?_
      refine ow_aload_n 0 rfl d_Reader_takeNewName_36 ?_
      refine ow_gJ 80 d_Reader_takeNewName_37 rfl rfl (by decide) rfl rfl ?_
      refine ow_callV (b := 13) (cq := 3) (As := [.long (J14 13 7)]) (rest := []) (d2 := d) d_Reader_takeNewName_40 l_Reader_195 v_Reader_follyNamed (show 13 < 85 by decide) rfl (by decide) rfl (Nat.le_of_ble_eq_true rfl) (Nat.le_refl _) ⟨Nat.le_refl _, Nat.le_refl _⟩ (ow_mono T ?_)
      rintro r h' ⟨r15, I15, J15, R15, rfl, rfl, hR15, hTx, T⟩
      show ow_AW ow_Y0 (ow_Z Q) M_Reader_takeNewName (d + 1) 0 0 43 [(0, .ref 13)] [.int r15] (85, I15, J15, R15) 0 0
      refine ow_iconst (v := (-1)) (by decide) d_Reader_takeNewName_43 ?_
      refine ow_icmp_ne (tgt := 58) d_Reader_takeNewName_44 (by decide) (fun c => ?_) (fun c => ?_)
      · replace T := T.1 c
        refine ow_aload_n 0 rfl d_Reader_takeNewName_58 ?_
        refine ow_iconst (v := 3) (by decide) d_Reader_takeNewName_59 ?_
        refine ow_callV (b := 13) (cq := 3) (As := [.int 3]) (rest := []) (d2 := d) d_Reader_takeNewName_60 l_Reader_69 v_Reader_fail (show 13 < 85 by decide) rfl (by decide) rfl (Nat.le_of_ble_eq_true rfl) (Nat.le_refl _) ⟨Nat.le_refl _, Nat.le_refl _⟩ (ow_mono T ?_)
        rintro r h' ⟨r16, I16, J16, R16, rfl, rfl, hR16, hTx, T⟩
        show ow_AW ow_Y0 (ow_Z Q) M_Reader_takeNewName (d + 1) 0 0 63 [(0, .ref 13)] [.int r16] (85, I16, J16, R16) 0 0
        exact ow_zret d_Reader_takeNewName_63 rfl T.1 T.2
      · replace T := T.2 c
        refine ow_aload_n 0 rfl d_Reader_takeNewName_47 ?_
        refine ow_aload_n 0 rfl d_Reader_takeNewName_48 ?_
        refine ow_gJ 80 d_Reader_takeNewName_49 rfl rfl (by decide) rfl rfl ?_
        refine ow_callV (b := 13) (cq := 3) (As := [.long (J15 13 7)]) (rest := []) (d2 := d) d_Reader_takeNewName_52 l_Reader_199 v_Reader_isEstateNamed (show 13 < 85 by decide) rfl (by decide) rfl (Nat.le_of_ble_eq_true rfl) (Nat.le_refl _) ⟨Nat.le_refl _, Nat.le_refl _⟩ (ow_mono T ?_)
        rintro r h' ⟨r17, I17, J17, R17, rfl, rfl, hR17, hTx, T⟩
        show ow_AW ow_Y0 (ow_Z Q) M_Reader_takeNewName (d + 1) 0 0 55 [(0, .ref 13)] [.int r17] (85, I17, J17, R17) 0 0
        refine ow_if_eq (tgt := 64) d_Reader_takeNewName_55 (by decide) (fun c => ?_) (fun c => ?_)
        · replace T := T.1 c
          refine ow_aload_n 0 rfl d_Reader_takeNewName_64 ?_
          refine ow_gR (a := 25) 74 d_Reader_takeNewName_65 rfl rfl (by decide) rfl ⟨rfl, hR17 13 1 (by decide)⟩ ?_
          refine ow_callV (b := 25) (cq := 7) (As := []) (rest := []) (d2 := d) d_Reader_takeNewName_68 l_Reader_73 v_Tokens_advance (show 25 < 85 by decide) rfl (by decide) rfl (Nat.le_of_ble_eq_true rfl) (Nat.le_refl _) ⟨Nat.le_refl _, Nat.le_refl _⟩ (ow_mono T ?_)
          rintro r h' ⟨I18, J18, R18, rfl, rfl, hR18, hTx, T⟩
          show ow_AW ow_Y0 (ow_Z Q) M_Reader_takeNewName (d + 1) 0 0 71 [(0, .ref 13)] [] (85, I18, J18, R18) 0 0
          refine ow_iconst (v := 1) (by decide) d_Reader_takeNewName_71 ?_
          exact ow_zret d_Reader_takeNewName_72 rfl (by decide) T
        · replace T := T.2 c
          refine ow_aload_n 0 rfl d_Reader_takeNewName_58 ?_
          refine ow_iconst (v := 3) (by decide) d_Reader_takeNewName_59 ?_
          refine ow_callV (b := 13) (cq := 3) (As := [.int 3]) (rest := []) (d2 := d) d_Reader_takeNewName_60 l_Reader_69 v_Reader_fail (show 13 < 85 by decide) rfl (by decide) rfl (Nat.le_of_ble_eq_true rfl) (Nat.le_refl _) ⟨Nat.le_refl _, Nat.le_refl _⟩ (ow_mono T ?_)
          rintro r h' ⟨r19, I19, J19, R19, rfl, rfl, hR19, hTx, T⟩
          show ow_AW ow_Y0 (ow_Z Q) M_Reader_takeNewName (d + 1) 0 0 63 [(0, .ref 13)] [.int r19] (85, I19, J19, R19) 0 0
          exact ow_zret d_Reader_takeNewName_63 rfl T.1 T.2
    · replace T := T.2 c
      refine ow_aload_n 0 rfl d_Reader_takeNewName_18 ?_
      refine ow_iconst (v := 1) (by decide) d_Reader_takeNewName_19 ?_
      refine ow_callV (b := 13) (cq := 3) (As := [.int 1]) (rest := []) (d2 := d) d_Reader_takeNewName_20 l_Reader_69 v_Reader_fail (show 13 < 85 by decide) rfl (by decide) rfl (Nat.le_of_ble_eq_true rfl) (Nat.le_refl _) ⟨Nat.le_refl _, Nat.le_refl _⟩ (ow_mono T ?_)
      rintro r h' ⟨r20, I20, J20, R20, rfl, rfl, hR20, hTx, T⟩
      show ow_AW ow_Y0 (ow_Z Q) M_Reader_takeNewName (d + 1) 0 0 23 [(0, .ref 13)] [.int r20] (85, I20, J20, R20) 0 0
      exact ow_zret d_Reader_takeNewName_23 rfl T.1 T.2
set_option maxRecDepth 4000 in
theorem t_Reader_takeFolly {d : Nat} {I : Nat → Nat → Int32} {J : Nat → Nat → Int64} {R : Nat → Nat → Option Nat} {Q : Option Value → ow_H → Prop} {p1 : Int32}  (hR : ow_RF R) (hTx : R 25 0 = some 1) (T : ((¬ (I 25 3) = 1 → (ow_AM M_Reader_fail d [.ref 13, .int 1] (85, I, J, R) (fun r h' => ∃ (r10 : Int32) (I10 : Nat → Nat → Int32) (J10 : Nat → Nat → Int64) (R10 : Nat → Nat → Option Nat), r = some (.int r10) ∧ h' = (85, I10, J10, R10) ∧ ow_RF R10 ∧ R10 25 0 = some 1 ∧ ((r10 = 0 ∨ r10 = 1) ∧ Q (some (.int r10)) (85, I10, J10, R10))))) ∧ ((I 25 3) = 1 → (ow_AM M_Reader_lineOf d [.ref 13] (85, I, J, R) (fun r h' => ∃ (r11 : Int32) (I11 : Nat → Nat → Int32) (J11 : Nat → Nat → Int64) (R11 : Nat → Nat → Option Nat), r = some (.int r11) ∧ h' = (85, I11, J11, R11) ∧ ow_RF R11 ∧ R11 25 0 = some 1 ∧ ((r11 = 0 → (ow_AM M_Tokens_wordCode d [.ref 25] (85, I11, J11, R11) (fun r h' => ∃ (r12 : Int64) (I12 : Nat → Nat → Int32) (J12 : Nat → Nat → Int64) (R12 : Nat → Nat → Option Nat), r = some (.long r12) ∧ h' = (85, I12, J12, R12) ∧ ow_RF R12 ∧ R12 25 0 = some 1 ∧ (ow_AM M_Reader_follyNamed d [.ref 13, .long r12] (85, I12, J12, R12) (fun r h' => ∃ (r13 : Int32) (I13 : Nat → Nat → Int32) (J13 : Nat → Nat → Int64) (R13 : Nat → Nat → Option Nat), r = some (.int r13) ∧ h' = (85, I13, J13, R13) ∧ ow_RF R13 ∧ R13 25 0 = some 1 ∧ ((¬ r13 = (-1) → ((((p1 >>> (r13 &&& 31)) &&& 1) = 0 → (∀ (I14 : Nat → Nat → Int32), I14 = ow_u I13 13 8 r13 → (ow_AM M_Tokens_advance d [.ref 25] (85, I14, J13, R13) (fun r h' => ∃ (I15 : Nat → Nat → Int32) (J15 : Nat → Nat → Int64) (R15 : Nat → Nat → Option Nat), r = none ∧ h' = (85, I15, J15, R15) ∧ ow_RF R15 ∧ R15 25 0 = some 1 ∧ Q (some (.int 1)) (85, I15, J15, R15))))) ∧ (¬ ((p1 >>> (r13 &&& 31)) &&& 1) = 0 → (ow_AM M_Reader_fail d [.ref 13, .int 3] (85, I13, J13, R13) (fun r h' => ∃ (r16 : Int32) (I16 : Nat → Nat → Int32) (J16 : Nat → Nat → Int64) (R16 : Nat → Nat → Option Nat), r = some (.int r16) ∧ h' = (85, I16, J16, R16) ∧ ow_RF R16 ∧ R16 25 0 = some 1 ∧ ((r16 = 0 ∨ r16 = 1) ∧ Q (some (.int r16)) (85, I16, J16, R16))))))) ∧ (r13 = (-1) → (ow_AM M_Reader_fail d [.ref 13, .int 2] (85, I13, J13, R13) (fun r h' => ∃ (r17 : Int32) (I17 : Nat → Nat → Int32) (J17 : Nat → Nat → Int64) (R17 : Nat → Nat → Option Nat), r = some (.int r17) ∧ h' = (85, I17, J17, R17) ∧ ow_RF R17 ∧ R17 25 0 = some 1 ∧ ((r17 = 0 ∨ r17 = 1) ∧ Q (some (.int r17)) (85, I17, J17, R17))))))))))) ∧ (¬ r11 = 0 → (ow_AM M_Reader_fail d [.ref 13, .int 1] (85, I11, J11, R11) (fun r h' => ∃ (r18 : Int32) (I18 : Nat → Nat → Int32) (J18 : Nat → Nat → Int64) (R18 : Nat → Nat → Option Nat), r = some (.int r18) ∧ h' = (85, I18, J18, R18) ∧ ow_RF R18 ∧ R18 25 0 = some 1 ∧ ((r18 = 0 ∨ r18 = 1) ∧ Q (some (.int r18)) (85, I18, J18, R18))))))))))) : ow_AM M_Reader_takeFolly (d + 1) [.ref 13, .int p1] (85, I, J, R) Q := by
  refine ow_enter (by decide) (Nat.le_of_ble_eq_true rfl) ?_
  show ow_AW ow_Y0 (ow_Z Q) M_Reader_takeFolly (d + 1) 0 0 0 [(0, .ref 13), (1, .int p1)] [] (85, I, J, R) 0 0
  refine ow_aload_n 0 rfl d_Reader_takeFolly_0 ?_
  refine ow_gR (a := 25) 74 d_Reader_takeFolly_1 rfl rfl (by decide) rfl ⟨rfl, hR 13 1 (by decide)⟩ ?_
  refine ow_gI 68 d_Reader_takeFolly_4 rfl rfl (by decide) rfl (Or.inl rfl) ?_
  refine ow_iconst (v := 1) (by decide) d_Reader_takeFolly_7 ?_
  refine ow_icmp_ne (tgt := 18) d_Reader_takeFolly_8 (by decide) (fun c => ?_) (fun c => ?_)
  · replace T := T.1 c
    refine ow_aload_n 0 rfl d_Reader_takeFolly_18 ?_
    refine ow_iconst (v := 1) (by decide) d_Reader_takeFolly_19 ?_
    refine ow_callV (b := 13) (cq := 3) (As := [.int 1]) (rest := []) (d2 := d) d_Reader_takeFolly_20 l_Reader_69 v_Reader_fail (show 13 < 85 by decide) rfl (by decide) rfl (Nat.le_of_ble_eq_true rfl) (Nat.le_refl _) ⟨Nat.le_refl _, Nat.le_refl _⟩ (ow_mono T ?_)
    rintro r h' ⟨r10, I10, J10, R10, rfl, rfl, hR10, hTx, T⟩
    show ow_AW ow_Y0 (ow_Z Q) M_Reader_takeFolly (d + 1) 0 0 23 [(0, .ref 13), (1, .int p1)] [.int r10] (85, I10, J10, R10) 0 0
    exact ow_zret d_Reader_takeFolly_23 rfl T.1 T.2
  · replace T := T.2 c
    refine ow_aload_n 0 rfl d_Reader_takeFolly_11 ?_
    refine ow_callV (b := 13) (cq := 3) (As := []) (rest := []) (d2 := d) d_Reader_takeFolly_12 l_Reader_80 v_Reader_lineOf (show 13 < 85 by decide) rfl (by decide) rfl (Nat.le_of_ble_eq_true rfl) (Nat.le_refl _) ⟨Nat.le_refl _, Nat.le_refl _⟩ (ow_mono T ?_)
    rintro r h' ⟨r11, I11, J11, R11, rfl, rfl, hR11, hTx, T⟩
    show ow_AW ow_Y0 (ow_Z Q) M_Reader_takeFolly (d + 1) 0 0 15 [(0, .ref 13), (1, .int p1)] [.int r11] (85, I11, J11, R11) 0 0
    refine ow_if_eq (tgt := 24) d_Reader_takeFolly_15 (by decide) (fun c => ?_) (fun c => ?_)
    · replace T := T.1 c
      refine ow_aload_n 0 rfl d_Reader_takeFolly_24 ?_
      refine ow_aload_n 0 rfl d_Reader_takeFolly_25 ?_
      refine ow_gR (a := 25) 74 d_Reader_takeFolly_26 rfl rfl (by decide) rfl ⟨rfl, hR11 13 1 (by decide)⟩ ?_
      refine ow_callV (b := 25) (cq := 7) (As := []) (rest := [.ref 13]) (d2 := d) d_Reader_takeFolly_29 l_Reader_191 v_Tokens_wordCode (show 25 < 85 by decide) rfl (by decide) rfl (Nat.le_of_ble_eq_true rfl) (Nat.le_refl _) ⟨Nat.le_refl _, Nat.le_refl _⟩ (ow_mono T ?_)
      rintro r h' ⟨r12, I12, J12, R12, rfl, rfl, hR12, hTx, T⟩
      show ow_AW ow_Y0 (ow_Z Q) M_Reader_takeFolly (d + 1) 0 0 32 [(0, .ref 13), (1, .int p1)] [.long r12, .ref 13] (85, I12, J12, R12) 0 0
      refine ow_callV (b := 13) (cq := 3) (As := [.long r12]) (rest := []) (d2 := d) d_Reader_takeFolly_32 l_Reader_195 v_Reader_follyNamed (show 13 < 85 by decide) rfl (by decide) rfl (Nat.le_of_ble_eq_true rfl) (Nat.le_refl _) ⟨Nat.le_refl _, Nat.le_refl _⟩ (ow_mono T ?_)
      rintro r h' ⟨r13, I13, J13, R13, rfl, rfl, hR13, hTx, T⟩
      show ow_AW ow_Y0 (ow_Z Q) M_Reader_takeFolly (d + 1) 0 0 35 [(0, .ref 13), (1, .int p1)] [.int r13] (85, I13, J13, R13) 0 0
      refine ow_istore_n (ls2 := [(2, .int r13), (0, .ref 13), (1, .int p1)]) d_Reader_takeFolly_35 (by decide) rfl ?_
      refine ow_iload_n 0 rfl d_Reader_takeFolly_36 ?_
      refine ow_iconst (v := (-1)) (by decide) d_Reader_takeFolly_37 ?_
      refine ow_icmp_ne (tgt := 47) d_Reader_takeFolly_38 (by decide) (fun c => ?_) (fun c => ?_)
      · replace T := T.1 c
        refine ow_iload_n 2 rfl d_Reader_takeFolly_47 ?_
        refine ow_iload_n 0 rfl d_Reader_takeFolly_48 ?_
        refine ow_ishr d_Reader_takeFolly_49 ?_
        refine ow_iconst (v := 1) (by decide) d_Reader_takeFolly_50 ?_
        refine ow_iand d_Reader_takeFolly_51 ?_
        refine ow_if_eq (tgt := 61) d_Reader_takeFolly_52 (by decide) (fun c => ?_) (fun c => ?_)
        · replace T := T.1 c
          refine ow_aload_n 1 rfl d_Reader_takeFolly_61 ?_
          refine ow_iload_n 0 rfl d_Reader_takeFolly_62 ?_
          refine ow_pI 81 d_Reader_takeFolly_63 rfl rfl (by decide) rfl rfl rfl ?_
          obtain ⟨I14, eI14⟩ : ∃ uu, uu = ow_u I13 13 8 r13 := ⟨_, rfl⟩
          replace T := T I14 eI14
          rw [← eI14]
          refine ow_aload_n 1 rfl d_Reader_takeFolly_66 ?_
          refine ow_gR (a := 25) 74 d_Reader_takeFolly_67 rfl rfl (by decide) rfl ⟨rfl, hR13 13 1 (by decide)⟩ ?_
          refine ow_callV (b := 25) (cq := 7) (As := []) (rest := []) (d2 := d) d_Reader_takeFolly_70 l_Reader_73 v_Tokens_advance (show 25 < 85 by decide) rfl (by decide) rfl (Nat.le_of_ble_eq_true rfl) (Nat.le_refl _) ⟨Nat.le_refl _, Nat.le_refl _⟩ (ow_mono T ?_)
          rintro r h' ⟨I15, J15, R15, rfl, rfl, hR15, hTx, T⟩
          show ow_AW ow_Y0 (ow_Z Q) M_Reader_takeFolly (d + 1) 0 0 73 [(2, .int r13), (0, .ref 13), (1, .int p1)] [] (85, I15, J15, R15) 0 0
          refine ow_iconst (v := 1) (by decide) d_Reader_takeFolly_73 ?_
          exact ow_zret d_Reader_takeFolly_74 rfl (by decide) T
        · replace T := T.2 c
          refine ow_aload_n 1 rfl d_Reader_takeFolly_55 ?_
          refine ow_iconst (v := 3) (by decide) d_Reader_takeFolly_56 ?_
          refine ow_callV (b := 13) (cq := 3) (As := [.int 3]) (rest := []) (d2 := d) d_Reader_takeFolly_57 l_Reader_69 v_Reader_fail (show 13 < 85 by decide) rfl (by decide) rfl (Nat.le_of_ble_eq_true rfl) (Nat.le_refl _) ⟨Nat.le_refl _, Nat.le_refl _⟩ (ow_mono T ?_)
          rintro r h' ⟨r16, I16, J16, R16, rfl, rfl, hR16, hTx, T⟩
          show ow_AW ow_Y0 (ow_Z Q) M_Reader_takeFolly (d + 1) 0 0 60 [(2, .int r13), (0, .ref 13), (1, .int p1)] [.int r16] (85, I16, J16, R16) 0 0
          exact ow_zret d_Reader_takeFolly_60 rfl T.1 T.2
      · replace T := T.2 c
        refine ow_aload_n 1 rfl d_Reader_takeFolly_41 ?_
        refine ow_iconst (v := 2) (by decide) d_Reader_takeFolly_42 ?_
        refine ow_callV (b := 13) (cq := 3) (As := [.int 2]) (rest := []) (d2 := d) d_Reader_takeFolly_43 l_Reader_69 v_Reader_fail (show 13 < 85 by decide) rfl (by decide) rfl (Nat.le_of_ble_eq_true rfl) (Nat.le_refl _) ⟨Nat.le_refl _, Nat.le_refl _⟩ (ow_mono T ?_)
        rintro r h' ⟨r17, I17, J17, R17, rfl, rfl, hR17, hTx, T⟩
        show ow_AW ow_Y0 (ow_Z Q) M_Reader_takeFolly (d + 1) 0 0 46 [(2, .int r13), (0, .ref 13), (1, .int p1)] [.int r17] (85, I17, J17, R17) 0 0
        exact ow_zret d_Reader_takeFolly_46 rfl T.1 T.2
    · replace T := T.2 c
      refine ow_aload_n 0 rfl d_Reader_takeFolly_18 ?_
      refine ow_iconst (v := 1) (by decide) d_Reader_takeFolly_19 ?_
      refine ow_callV (b := 13) (cq := 3) (As := [.int 1]) (rest := []) (d2 := d) d_Reader_takeFolly_20 l_Reader_69 v_Reader_fail (show 13 < 85 by decide) rfl (by decide) rfl (Nat.le_of_ble_eq_true rfl) (Nat.le_refl _) ⟨Nat.le_refl _, Nat.le_refl _⟩ (ow_mono T ?_)
      rintro r h' ⟨r18, I18, J18, R18, rfl, rfl, hR18, hTx, T⟩
      show ow_AW ow_Y0 (ow_Z Q) M_Reader_takeFolly (d + 1) 0 0 23 [(0, .ref 13), (1, .int p1)] [.int r18] (85, I18, J18, R18) 0 0
      exact ow_zret d_Reader_takeFolly_23 rfl T.1 T.2
set_option maxRecDepth 4000 in
theorem t_Reader_takeShape {d : Nat} {I : Nat → Nat → Int32} {J : Nat → Nat → Int64} {R : Nat → Nat → Option Nat} {Q : Option Value → ow_H → Prop}   (hR : ow_RF R) (hTx : R 25 0 = some 1) (T : (ow_AM M_Tokens_isWord d [.ref 25, .ref (1000 + 9)] (85, I, J, R) (fun r h' => ∃ (r17 : Int32) (I17 : Nat → Nat → Int32) (J17 : Nat → Nat → Int64) (R17 : Nat → Nat → Option Nat), r = some (.int r17) ∧ h' = (85, I17, J17, R17) ∧ ow_RF R17 ∧ R17 25 0 = some 1 ∧ ((r17 = 0 → (ow_AM M_Tokens_isWord d [.ref 25, .ref (1000 + 10)] (85, I17, J17, R17) (fun r h' => ∃ (r18 : Int32) (I18 : Nat → Nat → Int32) (J18 : Nat → Nat → Int64) (R18 : Nat → Nat → Option Nat), r = some (.int r18) ∧ h' = (85, I18, J18, R18) ∧ ow_RF R18 ∧ R18 25 0 = some 1 ∧ ((r18 = 0 → (ow_AM M_Tokens_isWord d [.ref 25, .ref (1000 + 11)] (85, I18, J18, R18) (fun r h' => ∃ (r19 : Int32) (I19 : Nat → Nat → Int32) (J19 : Nat → Nat → Int64) (R19 : Nat → Nat → Option Nat), r = some (.int r19) ∧ h' = (85, I19, J19, R19) ∧ ow_RF R19 ∧ R19 25 0 = some 1 ∧ ((r19 = 0 → (ow_AM M_Tokens_isWord d [.ref 25, .ref (1000 + 12)] (85, I19, J19, R19) (fun r h' => ∃ (r20 : Int32) (I20 : Nat → Nat → Int32) (J20 : Nat → Nat → Int64) (R20 : Nat → Nat → Option Nat), r = some (.int r20) ∧ h' = (85, I20, J20, R20) ∧ ow_RF R20 ∧ R20 25 0 = some 1 ∧ ((r20 = 0 → (ow_AM M_Tokens_isWord d [.ref 25, .ref (1000 + 13)] (85, I20, J20, R20) (fun r h' => ∃ (r21 : Int32) (I21 : Nat → Nat → Int32) (J21 : Nat → Nat → Int64) (R21 : Nat → Nat → Option Nat), r = some (.int r21) ∧ h' = (85, I21, J21, R21) ∧ ow_RF R21 ∧ R21 25 0 = some 1 ∧ ((r21 = 0 → (ow_AM M_Reader_fail d [.ref 13, .int 1] (85, I21, J21, R21) (fun r h' => ∃ (r22 : Int32) (I22 : Nat → Nat → Int32) (J22 : Nat → Nat → Int64) (R22 : Nat → Nat → Option Nat), r = some (.int r22) ∧ h' = (85, I22, J22, R22) ∧ ow_RF R22 ∧ R22 25 0 = some 1 ∧ ((r22 = 0 ∨ r22 = 1) ∧ Q (some (.int r22)) (85, I22, J22, R22))))) ∧ (¬ r21 = 0 → (∀ (I23 : Nat → Nat → Int32), I23 = ow_u I21 13 8 4 → (ow_AM M_Tokens_advance d [.ref 25] (85, I23, J21, R21) (fun r h' => ∃ (I24 : Nat → Nat → Int32) (J24 : Nat → Nat → Int64) (R24 : Nat → Nat → Option Nat), r = none ∧ h' = (85, I24, J24, R24) ∧ ow_RF R24 ∧ R24 25 0 = some 1 ∧ Q (some (.int 1)) (85, I24, J24, R24))))))))) ∧ (¬ r20 = 0 → (∀ (I25 : Nat → Nat → Int32), I25 = ow_u I20 13 8 3 → (ow_AM M_Tokens_advance d [.ref 25] (85, I25, J20, R20) (fun r h' => ∃ (I26 : Nat → Nat → Int32) (J26 : Nat → Nat → Int64) (R26 : Nat → Nat → Option Nat), r = none ∧ h' = (85, I26, J26, R26) ∧ ow_RF R26 ∧ R26 25 0 = some 1 ∧ Q (some (.int 1)) (85, I26, J26, R26))))))))) ∧ (¬ r19 = 0 → (∀ (I27 : Nat → Nat → Int32), I27 = ow_u I19 13 8 2 → (ow_AM M_Tokens_advance d [.ref 25] (85, I27, J19, R19) (fun r h' => ∃ (I28 : Nat → Nat → Int32) (J28 : Nat → Nat → Int64) (R28 : Nat → Nat → Option Nat), r = none ∧ h' = (85, I28, J28, R28) ∧ ow_RF R28 ∧ R28 25 0 = some 1 ∧ Q (some (.int 1)) (85, I28, J28, R28))))))))) ∧ (¬ r18 = 0 → (∀ (I29 : Nat → Nat → Int32), I29 = ow_u I18 13 8 1 → (ow_AM M_Tokens_advance d [.ref 25] (85, I29, J18, R18) (fun r h' => ∃ (I30 : Nat → Nat → Int32) (J30 : Nat → Nat → Int64) (R30 : Nat → Nat → Option Nat), r = none ∧ h' = (85, I30, J30, R30) ∧ ow_RF R30 ∧ R30 25 0 = some 1 ∧ Q (some (.int 1)) (85, I30, J30, R30))))))))) ∧ (¬ r17 = 0 → (∀ (I31 : Nat → Nat → Int32), I31 = ow_u I17 13 8 0 → (ow_AM M_Tokens_advance d [.ref 25] (85, I31, J17, R17) (fun r h' => ∃ (I32 : Nat → Nat → Int32) (J32 : Nat → Nat → Int64) (R32 : Nat → Nat → Option Nat), r = none ∧ h' = (85, I32, J32, R32) ∧ ow_RF R32 ∧ R32 25 0 = some 1 ∧ Q (some (.int 1)) (85, I32, J32, R32))))))))) : ow_AM M_Reader_takeShape (d + 1) [.ref 13] (85, I, J, R) Q := by
  refine ow_enter (by decide) (Nat.le_of_ble_eq_true rfl) ?_
  show ow_AW ow_Y0 (ow_Z Q) M_Reader_takeShape (d + 1) 0 0 0 [(0, .ref 13)] [] (85, I, J, R) 0 0
  refine ow_aload_n 0 rfl d_Reader_takeShape_0 ?_
  refine ow_gR (a := 25) 74 d_Reader_takeShape_1 rfl rfl (by decide) rfl ⟨rfl, hR 13 1 (by decide)⟩ ?_
  refine ow_ldS (tx := "towe\x72") (i := 9) 9 d_Reader_takeShape_4 rfl ?_
  refine ow_callV (b := 25) (cq := 7) (As := [.ref (1000 + 9)]) (rest := []) (d2 := d) d_Reader_takeShape_6 l_Reader_107 v_Tokens_isWord (show 25 < 85 by decide) rfl (by decide) rfl (Nat.le_of_ble_eq_true rfl) (Nat.le_refl _) ⟨Nat.le_refl _, Nat.le_refl _⟩ (ow_mono T ?_)
  rintro r h' ⟨r17, I17, J17, R17, rfl, rfl, hR17, hTx, T⟩
  show ow_AW ow_Y0 (ow_Z Q) M_Reader_takeShape (d + 1) 0 0 9 [(0, .ref 13)] [.int r17] (85, I17, J17, R17) 0 0
  refine ow_if_eq (tgt := 20) d_Reader_takeShape_9 (by decide) (fun c => ?_) (fun c => ?_)
  · replace T := T.1 c
    refine ow_aload_n 0 rfl d_Reader_takeShape_20 ?_
    refine ow_gR (a := 25) 74 d_Reader_takeShape_21 rfl rfl (by decide) rfl ⟨rfl, hR17 13 1 (by decide)⟩ ?_
    refine ow_ldS (tx := "arch") (i := 10) 10 d_Reader_takeShape_24 rfl ?_
    refine ow_callV (b := 25) (cq := 7) (As := [.ref (1000 + 10)]) (rest := []) (d2 := d) d_Reader_takeShape_26 l_Reader_107 v_Tokens_isWord (show 25 < 85 by decide) rfl (by decide) rfl (Nat.le_of_ble_eq_true rfl) (Nat.le_refl _) ⟨Nat.le_refl _, Nat.le_refl _⟩ (ow_mono T ?_)
    rintro r h' ⟨r18, I18, J18, R18, rfl, rfl, hR18, hTx, T⟩
    show ow_AW ow_Y0 (ow_Z Q) M_Reader_takeShape (d + 1) 0 0 29 [(0, .ref 13)] [.int r18] (85, I18, J18, R18) 0 0
    refine ow_if_eq (tgt := 40) d_Reader_takeShape_29 (by decide) (fun c => ?_) (fun c => ?_)
    · replace T := T.1 c
      refine ow_aload_n 0 rfl d_Reader_takeShape_40 ?_
      refine ow_gR (a := 25) 74 d_Reader_takeShape_41 rfl rfl (by decide) rfl ⟨rfl, hR18 13 1 (by decide)⟩ ?_
      refine ow_ldS (tx := "obelisk") (i := 11) 11 d_Reader_takeShape_44 rfl ?_
      refine ow_callV (b := 25) (cq := 7) (As := [.ref (1000 + 11)]) (rest := []) (d2 := d) d_Reader_takeShape_46 l_Reader_107 v_Tokens_isWord (show 25 < 85 by decide) rfl (by decide) rfl (Nat.le_of_ble_eq_true rfl) (Nat.le_refl _) ⟨Nat.le_refl _, Nat.le_refl _⟩ (ow_mono T ?_)
      rintro r h' ⟨r19, I19, J19, R19, rfl, rfl, hR19, hTx, T⟩
      show ow_AW ow_Y0 (ow_Z Q) M_Reader_takeShape (d + 1) 0 0 49 [(0, .ref 13)] [.int r19] (85, I19, J19, R19) 0 0
      refine ow_if_eq (tgt := 60) d_Reader_takeShape_49 (by decide) (fun c => ?_) (fun c => ?_)
      · replace T := T.1 c
        refine ow_aload_n 0 rfl d_Reader_takeShape_60 ?_
        refine ow_gR (a := 25) 74 d_Reader_takeShape_61 rfl rfl (by decide) rfl ⟨rfl, hR19 13 1 (by decide)⟩ ?_
        refine ow_ldS (tx := "pyramid") (i := 12) 12 d_Reader_takeShape_64 rfl ?_
        refine ow_callV (b := 25) (cq := 7) (As := [.ref (1000 + 12)]) (rest := []) (d2 := d) d_Reader_takeShape_66 l_Reader_107 v_Tokens_isWord (show 25 < 85 by decide) rfl (by decide) rfl (Nat.le_of_ble_eq_true rfl) (Nat.le_refl _) ⟨Nat.le_refl _, Nat.le_refl _⟩ (ow_mono T ?_)
        rintro r h' ⟨r20, I20, J20, R20, rfl, rfl, hR20, hTx, T⟩
        show ow_AW ow_Y0 (ow_Z Q) M_Reader_takeShape (d + 1) 0 0 69 [(0, .ref 13)] [.int r20] (85, I20, J20, R20) 0 0
        refine ow_if_eq (tgt := 80) d_Reader_takeShape_69 (by decide) (fun c => ?_) (fun c => ?_)
        · replace T := T.1 c
          refine ow_aload_n 0 rfl d_Reader_takeShape_80 ?_
          refine ow_gR (a := 25) 74 d_Reader_takeShape_81 rfl rfl (by decide) rfl ⟨rfl, hR20 13 1 (by decide)⟩ ?_
          refine ow_ldS (tx := "grotto") (i := 13) 13 d_Reader_takeShape_84 rfl ?_
          refine ow_callV (b := 25) (cq := 7) (As := [.ref (1000 + 13)]) (rest := []) (d2 := d) d_Reader_takeShape_86 l_Reader_107 v_Tokens_isWord (show 25 < 85 by decide) rfl (by decide) rfl (Nat.le_of_ble_eq_true rfl) (Nat.le_refl _) ⟨Nat.le_refl _, Nat.le_refl _⟩ (ow_mono T ?_)
          rintro r h' ⟨r21, I21, J21, R21, rfl, rfl, hR21, hTx, T⟩
          show ow_AW ow_Y0 (ow_Z Q) M_Reader_takeShape (d + 1) 0 0 89 [(0, .ref 13)] [.int r21] (85, I21, J21, R21) 0 0
          refine ow_if_eq (tgt := 100) d_Reader_takeShape_89 (by decide) (fun c => ?_) (fun c => ?_)
          · replace T := T.1 c
            refine ow_aload_n 0 rfl d_Reader_takeShape_100 ?_
            refine ow_iconst (v := 1) (by decide) d_Reader_takeShape_101 ?_
            refine ow_callV (b := 13) (cq := 3) (As := [.int 1]) (rest := []) (d2 := d) d_Reader_takeShape_102 l_Reader_69 v_Reader_fail (show 13 < 85 by decide) rfl (by decide) rfl (Nat.le_of_ble_eq_true rfl) (Nat.le_refl _) ⟨Nat.le_refl _, Nat.le_refl _⟩ (ow_mono T ?_)
            rintro r h' ⟨r22, I22, J22, R22, rfl, rfl, hR22, hTx, T⟩
            show ow_AW ow_Y0 (ow_Z Q) M_Reader_takeShape (d + 1) 0 0 105 [(0, .ref 13)] [.int r22] (85, I22, J22, R22) 0 0
            exact ow_zret d_Reader_takeShape_105 rfl T.1 T.2
          · replace T := T.2 c
            refine ow_aload_n 0 rfl d_Reader_takeShape_92 ?_
            refine ow_iconst (v := 4) (by decide) d_Reader_takeShape_93 ?_
            refine ow_pI 81 d_Reader_takeShape_94 rfl rfl (by decide) rfl rfl rfl ?_
            obtain ⟨I23, eI23⟩ : ∃ uu, uu = ow_u I21 13 8 4 := ⟨_, rfl⟩
            replace T := T I23 eI23
            rw [← eI23]
            refine ow_goto (tgt := 106) d_Reader_takeShape_97 (by decide) ?_
            refine ow_aload_n 0 rfl d_Reader_takeShape_106 ?_
            refine ow_gR (a := 25) 74 d_Reader_takeShape_107 rfl rfl (by decide) rfl ⟨rfl, hR21 13 1 (by decide)⟩ ?_
            refine ow_callV (b := 25) (cq := 7) (As := []) (rest := []) (d2 := d) d_Reader_takeShape_110 l_Reader_73 v_Tokens_advance (show 25 < 85 by decide) rfl (by decide) rfl (Nat.le_of_ble_eq_true rfl) (Nat.le_refl _) ⟨Nat.le_refl _, Nat.le_refl _⟩ (ow_mono T ?_)
            rintro r h' ⟨I24, J24, R24, rfl, rfl, hR24, hTx, T⟩
            show ow_AW ow_Y0 (ow_Z Q) M_Reader_takeShape (d + 1) 0 0 113 [(0, .ref 13)] [] (85, I24, J24, R24) 0 0
            refine ow_iconst (v := 1) (by decide) d_Reader_takeShape_113 ?_
            exact ow_zret d_Reader_takeShape_114 rfl (by decide) T
        · replace T := T.2 c
          refine ow_aload_n 0 rfl d_Reader_takeShape_72 ?_
          refine ow_iconst (v := 3) (by decide) d_Reader_takeShape_73 ?_
          refine ow_pI 81 d_Reader_takeShape_74 rfl rfl (by decide) rfl rfl rfl ?_
          obtain ⟨I25, eI25⟩ : ∃ uu, uu = ow_u I20 13 8 3 := ⟨_, rfl⟩
          replace T := T I25 eI25
          rw [← eI25]
          refine ow_goto (tgt := 106) d_Reader_takeShape_77 (by decide) ?_
          refine ow_aload_n 0 rfl d_Reader_takeShape_106 ?_
          refine ow_gR (a := 25) 74 d_Reader_takeShape_107 rfl rfl (by decide) rfl ⟨rfl, hR20 13 1 (by decide)⟩ ?_
          refine ow_callV (b := 25) (cq := 7) (As := []) (rest := []) (d2 := d) d_Reader_takeShape_110 l_Reader_73 v_Tokens_advance (show 25 < 85 by decide) rfl (by decide) rfl (Nat.le_of_ble_eq_true rfl) (Nat.le_refl _) ⟨Nat.le_refl _, Nat.le_refl _⟩ (ow_mono T ?_)
          rintro r h' ⟨I26, J26, R26, rfl, rfl, hR26, hTx, T⟩
          show ow_AW ow_Y0 (ow_Z Q) M_Reader_takeShape (d + 1) 0 0 113 [(0, .ref 13)] [] (85, I26, J26, R26) 0 0
          refine ow_iconst (v := 1) (by decide) d_Reader_takeShape_113 ?_
          exact ow_zret d_Reader_takeShape_114 rfl (by decide) T
      · replace T := T.2 c
        refine ow_aload_n 0 rfl d_Reader_takeShape_52 ?_
        refine ow_iconst (v := 2) (by decide) d_Reader_takeShape_53 ?_
        refine ow_pI 81 d_Reader_takeShape_54 rfl rfl (by decide) rfl rfl rfl ?_
        obtain ⟨I27, eI27⟩ : ∃ uu, uu = ow_u I19 13 8 2 := ⟨_, rfl⟩
        replace T := T I27 eI27
        rw [← eI27]
        refine ow_goto (tgt := 106) d_Reader_takeShape_57 (by decide) ?_
        refine ow_aload_n 0 rfl d_Reader_takeShape_106 ?_
        refine ow_gR (a := 25) 74 d_Reader_takeShape_107 rfl rfl (by decide) rfl ⟨rfl, hR19 13 1 (by decide)⟩ ?_
        refine ow_callV (b := 25) (cq := 7) (As := []) (rest := []) (d2 := d) d_Reader_takeShape_110 l_Reader_73 v_Tokens_advance (show 25 < 85 by decide) rfl (by decide) rfl (Nat.le_of_ble_eq_true rfl) (Nat.le_refl _) ⟨Nat.le_refl _, Nat.le_refl _⟩ (ow_mono T ?_)
        rintro r h' ⟨I28, J28, R28, rfl, rfl, hR28, hTx, T⟩
        show ow_AW ow_Y0 (ow_Z Q) M_Reader_takeShape (d + 1) 0 0 113 [(0, .ref 13)] [] (85, I28, J28, R28) 0 0
        refine ow_iconst (v := 1) (by decide) d_Reader_takeShape_113 ?_
        exact ow_zret d_Reader_takeShape_114 rfl (by decide) T
    · replace T := T.2 c
      refine ow_aload_n 0 rfl d_Reader_takeShape_32 ?_
      refine ow_iconst (v := 1) (by decide) d_Reader_takeShape_33 ?_
      refine ow_pI 81 d_Reader_takeShape_34 rfl rfl (by decide) rfl rfl rfl ?_
      obtain ⟨I29, eI29⟩ : ∃ uu, uu = ow_u I18 13 8 1 := ⟨_, rfl⟩
      replace T := T I29 eI29
      rw [← eI29]
      refine ow_goto (tgt := 106) d_Reader_takeShape_37 (by decide) ?_
      refine ow_aload_n 0 rfl d_Reader_takeShape_106 ?_
      refine ow_gR (a := 25) 74 d_Reader_takeShape_107 rfl rfl (by decide) rfl ⟨rfl, hR18 13 1 (by decide)⟩ ?_
      refine ow_callV (b := 25) (cq := 7) (As := []) (rest := []) (d2 := d) d_Reader_takeShape_110 l_Reader_73 v_Tokens_advance (show 25 < 85 by decide) rfl (by decide) rfl (Nat.le_of_ble_eq_true rfl) (Nat.le_refl _) ⟨Nat.le_refl _, Nat.le_refl _⟩ (ow_mono T ?_)
      rintro r h' ⟨I30, J30, R30, rfl, rfl, hR30, hTx, T⟩
      show ow_AW ow_Y0 (ow_Z Q) M_Reader_takeShape (d + 1) 0 0 113 [(0, .ref 13)] [] (85, I30, J30, R30) 0 0
      refine ow_iconst (v := 1) (by decide) d_Reader_takeShape_113 ?_
      exact ow_zret d_Reader_takeShape_114 rfl (by decide) T
  · replace T := T.2 c
    refine ow_aload_n 0 rfl d_Reader_takeShape_12 ?_
    refine ow_iconst (v := 0) (by decide) d_Reader_takeShape_13 ?_
    refine ow_pI 81 d_Reader_takeShape_14 rfl rfl (by decide) rfl rfl rfl ?_
    obtain ⟨I31, eI31⟩ : ∃ uu, uu = ow_u I17 13 8 0 := ⟨_, rfl⟩
    replace T := T I31 eI31
    rw [← eI31]
    refine ow_goto (tgt := 106) d_Reader_takeShape_17 (by decide) ?_
    refine ow_aload_n 0 rfl d_Reader_takeShape_106 ?_
    refine ow_gR (a := 25) 74 d_Reader_takeShape_107 rfl rfl (by decide) rfl ⟨rfl, hR17 13 1 (by decide)⟩ ?_
    refine ow_callV (b := 25) (cq := 7) (As := []) (rest := []) (d2 := d) d_Reader_takeShape_110 l_Reader_73 v_Tokens_advance (show 25 < 85 by decide) rfl (by decide) rfl (Nat.le_of_ble_eq_true rfl) (Nat.le_refl _) ⟨Nat.le_refl _, Nat.le_refl _⟩ (ow_mono T ?_)
    rintro r h' ⟨I32, J32, R32, rfl, rfl, hR32, hTx, T⟩
    show ow_AW ow_Y0 (ow_Z Q) M_Reader_takeShape (d + 1) 0 0 113 [(0, .ref 13)] [] (85, I32, J32, R32) 0 0
    refine ow_iconst (v := 1) (by decide) d_Reader_takeShape_113 ?_
    exact ow_zret d_Reader_takeShape_114 rfl (by decide) T
set_option maxRecDepth 4000 in
theorem t_Reader_takeAnswer {d : Nat} {I : Nat → Nat → Int32} {J : Nat → Nat → Int64} {R : Nat → Nat → Option Nat} {Q : Option Value → ow_H → Prop} {p1 : Int32}  (hR : ow_RF R) (hTx : R 25 0 = some 1) (T : (ow_AM M_Tokens_isWord d [.ref 25, .ref (1000 + 16)] (85, I, J, R) (fun r h' => ∃ (r12 : Int32) (I12 : Nat → Nat → Int32) (J12 : Nat → Nat → Int64) (R12 : Nat → Nat → Option Nat), r = some (.int r12) ∧ h' = (85, I12, J12, R12) ∧ ow_RF R12 ∧ R12 25 0 = some 1 ∧ ((r12 = 0 → (ow_AM M_Tokens_isWord d [.ref 25, .ref (1000 + 17)] (85, I12, J12, R12) (fun r h' => ∃ (r13 : Int32) (I13 : Nat → Nat → Int32) (J13 : Nat → Nat → Int64) (R13 : Nat → Nat → Option Nat), r = some (.int r13) ∧ h' = (85, I13, J13, R13) ∧ ow_RF R13 ∧ R13 25 0 = some 1 ∧ ((r13 = 0 → ((p1 = 0 → (ow_AM M_Reader_fail d [.ref 13, .int 1] (85, I13, J13, R13) (fun r h' => ∃ (r14 : Int32) (I14 : Nat → Nat → Int32) (J14 : Nat → Nat → Int64) (R14 : Nat → Nat → Option Nat), r = some (.int r14) ∧ h' = (85, I14, J14, R14) ∧ ow_RF R14 ∧ R14 25 0 = some 1 ∧ ((r14 = 0 ∨ r14 = 1) ∧ Q (some (.int r14)) (85, I14, J14, R14))))) ∧ (¬ p1 = 0 → (ow_AM M_Tokens_isWord d [.ref 25, .ref (1000 + 18)] (85, I13, J13, R13) (fun r h' => ∃ (r15 : Int32) (I15 : Nat → Nat → Int32) (J15 : Nat → Nat → Int64) (R15 : Nat → Nat → Option Nat), r = some (.int r15) ∧ h' = (85, I15, J15, R15) ∧ ow_RF R15 ∧ R15 25 0 = some 1 ∧ ((r15 = 0 → (ow_AM M_Reader_fail d [.ref 13, .int 1] (85, I15, J15, R15) (fun r h' => ∃ (r16 : Int32) (I16 : Nat → Nat → Int32) (J16 : Nat → Nat → Int64) (R16 : Nat → Nat → Option Nat), r = some (.int r16) ∧ h' = (85, I16, J16, R16) ∧ ow_RF R16 ∧ R16 25 0 = some 1 ∧ ((r16 = 0 ∨ r16 = 1) ∧ Q (some (.int r16)) (85, I16, J16, R16))))) ∧ (¬ r15 = 0 → (∀ (I17 : Nat → Nat → Int32), I17 = ow_u I15 13 8 (-2) → (ow_AM M_Tokens_advance d [.ref 25] (85, I17, J15, R15) (fun r h' => ∃ (I18 : Nat → Nat → Int32) (J18 : Nat → Nat → Int64) (R18 : Nat → Nat → Option Nat), r = none ∧ h' = (85, I18, J18, R18) ∧ ow_RF R18 ∧ R18 25 0 = some 1 ∧ Q (some (.int 1)) (85, I18, J18, R18))))))))))) ∧ (¬ r13 = 0 → (∀ (I19 : Nat → Nat → Int32), I19 = ow_u I13 13 8 0 → (ow_AM M_Tokens_advance d [.ref 25] (85, I19, J13, R13) (fun r h' => ∃ (I20 : Nat → Nat → Int32) (J20 : Nat → Nat → Int64) (R20 : Nat → Nat → Option Nat), r = none ∧ h' = (85, I20, J20, R20) ∧ ow_RF R20 ∧ R20 25 0 = some 1 ∧ Q (some (.int 1)) (85, I20, J20, R20))))))))) ∧ (¬ r12 = 0 → (∀ (I21 : Nat → Nat → Int32), I21 = ow_u I12 13 8 1 → (ow_AM M_Tokens_advance d [.ref 25] (85, I21, J12, R12) (fun r h' => ∃ (I22 : Nat → Nat → Int32) (J22 : Nat → Nat → Int64) (R22 : Nat → Nat → Option Nat), r = none ∧ h' = (85, I22, J22, R22) ∧ ow_RF R22 ∧ R22 25 0 = some 1 ∧ Q (some (.int 1)) (85, I22, J22, R22))))))))) : ow_AM M_Reader_takeAnswer (d + 1) [.ref 13, .int p1] (85, I, J, R) Q := by
  refine ow_enter (by decide) (Nat.le_of_ble_eq_true rfl) ?_
  show ow_AW ow_Y0 (ow_Z Q) M_Reader_takeAnswer (d + 1) 0 0 0 [(0, .ref 13), (1, .int p1)] [] (85, I, J, R) 0 0
  refine ow_aload_n 0 rfl d_Reader_takeAnswer_0 ?_
  refine ow_gR (a := 25) 74 d_Reader_takeAnswer_1 rfl rfl (by decide) rfl ⟨rfl, hR 13 1 (by decide)⟩ ?_
  refine ow_ldS (tx := "yes") (i := 16) 16 d_Reader_takeAnswer_4 rfl ?_
  refine ow_callV (b := 25) (cq := 7) (As := [.ref (1000 + 16)]) (rest := []) (d2 := d) d_Reader_takeAnswer_6 l_Reader_107 v_Tokens_isWord (show 25 < 85 by decide) rfl (by decide) rfl (Nat.le_of_ble_eq_true rfl) (Nat.le_refl _) ⟨Nat.le_refl _, Nat.le_refl _⟩ (ow_mono T ?_)
  rintro r h' ⟨r12, I12, J12, R12, rfl, rfl, hR12, hTx, T⟩
  show ow_AW ow_Y0 (ow_Z Q) M_Reader_takeAnswer (d + 1) 0 0 9 [(0, .ref 13), (1, .int p1)] [.int r12] (85, I12, J12, R12) 0 0
  refine ow_if_eq (tgt := 20) d_Reader_takeAnswer_9 (by decide) (fun c => ?_) (fun c => ?_)
  · replace T := T.1 c
    refine ow_aload_n 0 rfl d_Reader_takeAnswer_20 ?_
    refine ow_gR (a := 25) 74 d_Reader_takeAnswer_21 rfl rfl (by decide) rfl ⟨rfl, hR12 13 1 (by decide)⟩ ?_
    refine ow_ldS (tx := "no") (i := 17) 17 d_Reader_takeAnswer_24 rfl ?_
    refine ow_callV (b := 25) (cq := 7) (As := [.ref (1000 + 17)]) (rest := []) (d2 := d) d_Reader_takeAnswer_26 l_Reader_107 v_Tokens_isWord (show 25 < 85 by decide) rfl (by decide) rfl (Nat.le_of_ble_eq_true rfl) (Nat.le_refl _) ⟨Nat.le_refl _, Nat.le_refl _⟩ (ow_mono T ?_)
    rintro r h' ⟨r13, I13, J13, R13, rfl, rfl, hR13, hTx, T⟩
    show ow_AW ow_Y0 (ow_Z Q) M_Reader_takeAnswer (d + 1) 0 0 29 [(0, .ref 13), (1, .int p1)] [.int r13] (85, I13, J13, R13) 0 0
    refine ow_if_eq (tgt := 40) d_Reader_takeAnswer_29 (by decide) (fun c => ?_) (fun c => ?_)
    · replace T := T.1 c
      refine ow_iload_n 1 rfl d_Reader_takeAnswer_40 ?_
      refine ow_if_eq (tgt := 65) d_Reader_takeAnswer_41 (by decide) (fun c => ?_) (fun c => ?_)
      · replace T := T.1 c
        refine ow_aload_n 0 rfl d_Reader_takeAnswer_65 ?_
        refine ow_iconst (v := 1) (by decide) d_Reader_takeAnswer_66 ?_
        refine ow_callV (b := 13) (cq := 3) (As := [.int 1]) (rest := []) (d2 := d) d_Reader_takeAnswer_67 l_Reader_69 v_Reader_fail (show 13 < 85 by decide) rfl (by decide) rfl (Nat.le_of_ble_eq_true rfl) (Nat.le_refl _) ⟨Nat.le_refl _, Nat.le_refl _⟩ (ow_mono T ?_)
        rintro r h' ⟨r14, I14, J14, R14, rfl, rfl, hR14, hTx, T⟩
        show ow_AW ow_Y0 (ow_Z Q) M_Reader_takeAnswer (d + 1) 0 0 70 [(0, .ref 13), (1, .int p1)] [.int r14] (85, I14, J14, R14) 0 0
        exact ow_zret d_Reader_takeAnswer_70 rfl T.1 T.2
      · replace T := T.2 c
        refine ow_aload_n 0 rfl d_Reader_takeAnswer_44 ?_
        refine ow_gR (a := 25) 74 d_Reader_takeAnswer_45 rfl rfl (by decide) rfl ⟨rfl, hR13 13 1 (by decide)⟩ ?_
        refine ow_ldS (tx := "lost") (i := 18) 18 d_Reader_takeAnswer_48 rfl ?_
        refine ow_callV (b := 25) (cq := 7) (As := [.ref (1000 + 18)]) (rest := []) (d2 := d) d_Reader_takeAnswer_50 l_Reader_107 v_Tokens_isWord (show 25 < 85 by decide) rfl (by decide) rfl (Nat.le_of_ble_eq_true rfl) (Nat.le_refl _) ⟨Nat.le_refl _, Nat.le_refl _⟩ (ow_mono T ?_)
        rintro r h' ⟨r15, I15, J15, R15, rfl, rfl, hR15, hTx, T⟩
        show ow_AW ow_Y0 (ow_Z Q) M_Reader_takeAnswer (d + 1) 0 0 53 [(0, .ref 13), (1, .int p1)] [.int r15] (85, I15, J15, R15) 0 0
        refine ow_if_eq (tgt := 65) d_Reader_takeAnswer_53 (by decide) (fun c => ?_) (fun c => ?_)
        · replace T := T.1 c
          refine ow_aload_n 0 rfl d_Reader_takeAnswer_65 ?_
          refine ow_iconst (v := 1) (by decide) d_Reader_takeAnswer_66 ?_
          refine ow_callV (b := 13) (cq := 3) (As := [.int 1]) (rest := []) (d2 := d) d_Reader_takeAnswer_67 l_Reader_69 v_Reader_fail (show 13 < 85 by decide) rfl (by decide) rfl (Nat.le_of_ble_eq_true rfl) (Nat.le_refl _) ⟨Nat.le_refl _, Nat.le_refl _⟩ (ow_mono T ?_)
          rintro r h' ⟨r16, I16, J16, R16, rfl, rfl, hR16, hTx, T⟩
          show ow_AW ow_Y0 (ow_Z Q) M_Reader_takeAnswer (d + 1) 0 0 70 [(0, .ref 13), (1, .int p1)] [.int r16] (85, I16, J16, R16) 0 0
          exact ow_zret d_Reader_takeAnswer_70 rfl T.1 T.2
        · replace T := T.2 c
          refine ow_aload_n 0 rfl d_Reader_takeAnswer_56 ?_
          refine ow_bipush (v := (-2)) (by decide) d_Reader_takeAnswer_57 ?_
          refine ow_pI 81 d_Reader_takeAnswer_59 rfl rfl (by decide) rfl rfl rfl ?_
          obtain ⟨I17, eI17⟩ : ∃ uu, uu = ow_u I15 13 8 (-2) := ⟨_, rfl⟩
          replace T := T I17 eI17
          rw [← eI17]
          refine ow_goto (tgt := 71) d_Reader_takeAnswer_62 (by decide) ?_
          refine ow_aload_n 0 rfl d_Reader_takeAnswer_71 ?_
          refine ow_gR (a := 25) 74 d_Reader_takeAnswer_72 rfl rfl (by decide) rfl ⟨rfl, hR15 13 1 (by decide)⟩ ?_
          refine ow_callV (b := 25) (cq := 7) (As := []) (rest := []) (d2 := d) d_Reader_takeAnswer_75 l_Reader_73 v_Tokens_advance (show 25 < 85 by decide) rfl (by decide) rfl (Nat.le_of_ble_eq_true rfl) (Nat.le_refl _) ⟨Nat.le_refl _, Nat.le_refl _⟩ (ow_mono T ?_)
          rintro r h' ⟨I18, J18, R18, rfl, rfl, hR18, hTx, T⟩
          show ow_AW ow_Y0 (ow_Z Q) M_Reader_takeAnswer (d + 1) 0 0 78 [(0, .ref 13), (1, .int p1)] [] (85, I18, J18, R18) 0 0
          refine ow_iconst (v := 1) (by decide) d_Reader_takeAnswer_78 ?_
          exact ow_zret d_Reader_takeAnswer_79 rfl (by decide) T
    · replace T := T.2 c
      refine ow_aload_n 0 rfl d_Reader_takeAnswer_32 ?_
      refine ow_iconst (v := 0) (by decide) d_Reader_takeAnswer_33 ?_
      refine ow_pI 81 d_Reader_takeAnswer_34 rfl rfl (by decide) rfl rfl rfl ?_
      obtain ⟨I19, eI19⟩ : ∃ uu, uu = ow_u I13 13 8 0 := ⟨_, rfl⟩
      replace T := T I19 eI19
      rw [← eI19]
      refine ow_goto (tgt := 71) d_Reader_takeAnswer_37 (by decide) ?_
      refine ow_aload_n 0 rfl d_Reader_takeAnswer_71 ?_
      refine ow_gR (a := 25) 74 d_Reader_takeAnswer_72 rfl rfl (by decide) rfl ⟨rfl, hR13 13 1 (by decide)⟩ ?_
      refine ow_callV (b := 25) (cq := 7) (As := []) (rest := []) (d2 := d) d_Reader_takeAnswer_75 l_Reader_73 v_Tokens_advance (show 25 < 85 by decide) rfl (by decide) rfl (Nat.le_of_ble_eq_true rfl) (Nat.le_refl _) ⟨Nat.le_refl _, Nat.le_refl _⟩ (ow_mono T ?_)
      rintro r h' ⟨I20, J20, R20, rfl, rfl, hR20, hTx, T⟩
      show ow_AW ow_Y0 (ow_Z Q) M_Reader_takeAnswer (d + 1) 0 0 78 [(0, .ref 13), (1, .int p1)] [] (85, I20, J20, R20) 0 0
      refine ow_iconst (v := 1) (by decide) d_Reader_takeAnswer_78 ?_
      exact ow_zret d_Reader_takeAnswer_79 rfl (by decide) T
  · replace T := T.2 c
    refine ow_aload_n 0 rfl d_Reader_takeAnswer_12 ?_
    refine ow_iconst (v := 1) (by decide) d_Reader_takeAnswer_13 ?_
    refine ow_pI 81 d_Reader_takeAnswer_14 rfl rfl (by decide) rfl rfl rfl ?_
    obtain ⟨I21, eI21⟩ : ∃ uu, uu = ow_u I12 13 8 1 := ⟨_, rfl⟩
    replace T := T I21 eI21
    rw [← eI21]
    refine ow_goto (tgt := 71) d_Reader_takeAnswer_17 (by decide) ?_
    refine ow_aload_n 0 rfl d_Reader_takeAnswer_71 ?_
    refine ow_gR (a := 25) 74 d_Reader_takeAnswer_72 rfl rfl (by decide) rfl ⟨rfl, hR12 13 1 (by decide)⟩ ?_
    refine ow_callV (b := 25) (cq := 7) (As := []) (rest := []) (d2 := d) d_Reader_takeAnswer_75 l_Reader_73 v_Tokens_advance (show 25 < 85 by decide) rfl (by decide) rfl (Nat.le_of_ble_eq_true rfl) (Nat.le_refl _) ⟨Nat.le_refl _, Nat.le_refl _⟩ (ow_mono T ?_)
    rintro r h' ⟨I22, J22, R22, rfl, rfl, hR22, hTx, T⟩
    show ow_AW ow_Y0 (ow_Z Q) M_Reader_takeAnswer (d + 1) 0 0 78 [(0, .ref 13), (1, .int p1)] [] (85, I22, J22, R22) 0 0
    refine ow_iconst (v := 1) (by decide) d_Reader_takeAnswer_78 ?_
    exact ow_zret d_Reader_takeAnswer_79 rfl (by decide) T
set_option maxRecDepth 4000 in
theorem t_Reader_follyNamed_2 {d : Nat} {I : Nat → Nat → Int32} {J : Nat → Nat → Int64} {R : Nat → Nat → Option Nat} {Q : Option Value → ow_H → Prop}  {v1 : Int64} {v3 : Int32}  (hR : ow_RF R) (T : (((I 15 0) ≤ v3 → Q (some (.int (-1))) (85, I, J, R)) ∧ (¬ (I 15 0) ≤ v3 → (vp_in v3 6 ∧ ((¬ (lg_cmp (J 27 v3.toNatClampNeg) v1) = 0 → ow_AW ow_Y0 (ow_Z Q) M_Reader_follyNamed (d + 1) 0 0 2 [(0, .ref 13), (1, .long v1), (3, .int (v3 + 1))] [] (85, I, J, R) 0 0) ∧ ((lg_cmp (J 27 v3.toNatClampNeg) v1) = 0 → Q (some (.int v3)) (85, I, J, R))))))) : ow_AW ow_Y0 (ow_Z Q) M_Reader_follyNamed (d + 1) 0 0 2 [(0, .ref 13), (1, .long v1), (3, .int v3)] [] (85, I, J, R) 0 0 := by
  refine ow_iload_n 2 rfl d_Reader_follyNamed_2 ?_
  refine ow_aload_n 0 rfl d_Reader_follyNamed_3 ?_
  refine ow_gR (a := 14) 72 d_Reader_follyNamed_4 rfl rfl (by decide) rfl ⟨rfl, hR 13 0 (by decide)⟩ ?_
  refine ow_gR (a := 15) 36 d_Reader_follyNamed_7 rfl rfl (by decide) rfl ⟨rfl, hR 14 2 (by decide)⟩ ?_
  refine ow_gI 2 d_Reader_follyNamed_10 rfl rfl (by decide) rfl (Or.inl rfl) ?_
  refine ow_icmp_ge (tgt := 35) d_Reader_follyNamed_13 (by decide) (fun c => ?_) (fun c => ?_)
  · replace T := T.1 c
    refine ow_iconst (v := (-1)) (by decide) d_Reader_follyNamed_35 ?_
    exact ow_iret d_Reader_follyNamed_36 rfl T
  · replace T := T.2 c
    refine ow_aload_n 0 rfl d_Reader_follyNamed_16 ?_
    refine ow_gR (a := 27) 75 d_Reader_follyNamed_17 rfl rfl (by decide) rfl ⟨rfl, hR 13 2 (by decide)⟩ ?_
    refine ow_iload_n 2 rfl d_Reader_follyNamed_20 ?_
    obtain ⟨cI, T⟩ := T
    refine ow_hlaload d_Reader_follyNamed_21 (by decide) rfl rfl cI ?_
    refine ow_lload_n 1 rfl d_Reader_follyNamed_22 ?_
    refine ow_lcmp d_Reader_follyNamed_23 ?_
    refine ow_if_ne (tgt := 29) d_Reader_follyNamed_24 (by decide) (fun c => ?_) (fun c => ?_)
    · replace T := T.1 c
      refine ow_iinc 2 (v := (v3 + 1)) (ls2 := [(3, .int (v3 + 1)), (0, .ref 13), (1, .long v1)]) d_Reader_follyNamed_29 rfl rfl (by decide) rfl ?_
      refine ow_goto (tgt := 2) d_Reader_follyNamed_32 (by decide) ?_
      refine ow_sub [1, 2, 0] rfl ?_
      exact T
    · replace T := T.2 c
      refine ow_iload_n 2 rfl d_Reader_follyNamed_27 ?_
      exact ow_iret d_Reader_follyNamed_28 rfl T
set_option maxRecDepth 4000 in
theorem t_Reader_follyNamed {d : Nat} {I : Nat → Nat → Int32} {J : Nat → Nat → Int64} {R : Nat → Nat → Option Nat} {Q : Option Value → ow_H → Prop} {p1 : Int64}  (hR : ow_RF R) (T : ow_AW ow_Y0 (ow_Z Q) M_Reader_follyNamed (d + 1) 0 0 2 [(0, .ref 13), (1, .long p1), (3, .int 0)] [] (85, I, J, R) 0 0) : ow_AM M_Reader_follyNamed (d + 1) [.ref 13, .long p1] (85, I, J, R) Q := by
  refine ow_enter (by decide) (Nat.le_of_ble_eq_true rfl) ?_
  show ow_AW ow_Y0 (ow_Z Q) M_Reader_follyNamed (d + 1) 0 0 0 [(0, .ref 13), (1, .long p1)] [] (85, I, J, R) 0 0
  refine ow_iconst (v := 0) (by decide) d_Reader_follyNamed_0 ?_
  refine ow_istore_n (ls2 := [(3, .int 0), (0, .ref 13), (1, .long p1)]) d_Reader_follyNamed_1 (by decide) rfl ?_
  refine ow_sub [1, 2, 0] rfl ?_
  exact T
set_option maxRecDepth 4000 in
theorem t_Reader_isEstateNamed_2 {d : Nat} {I : Nat → Nat → Int32} {J : Nat → Nat → Int64} {R : Nat → Nat → Option Nat} {Q : Option Value → ow_H → Prop}  {v1 : Int64} {v3 : Int32}  (hR : ow_RF R) (T : (((I 14 3) ≤ v3 → Q (some (.int 0)) (85, I, J, R)) ∧ (¬ (I 14 3) ≤ v3 → (vp_in v3 5 ∧ ((¬ (lg_cmp (J 28 v3.toNatClampNeg) v1) = 0 → ow_AW ow_Y0 (ow_Z Q) M_Reader_isEstateNamed (d + 1) 0 0 2 [(0, .ref 13), (1, .long v1), (3, .int (v3 + 1))] [] (85, I, J, R) 0 0) ∧ ((lg_cmp (J 28 v3.toNatClampNeg) v1) = 0 → Q (some (.int 1)) (85, I, J, R))))))) : ow_AW ow_Y0 (ow_Z Q) M_Reader_isEstateNamed (d + 1) 0 0 2 [(0, .ref 13), (1, .long v1), (3, .int v3)] [] (85, I, J, R) 0 0 := by
  refine ow_iload_n 2 rfl d_Reader_isEstateNamed_2 ?_
  refine ow_aload_n 0 rfl d_Reader_isEstateNamed_3 ?_
  refine ow_gR (a := 14) 72 d_Reader_isEstateNamed_4 rfl rfl (by decide) rfl ⟨rfl, hR 13 0 (by decide)⟩ ?_
  refine ow_gI 41 d_Reader_isEstateNamed_7 rfl rfl (by decide) rfl (Or.inl rfl) ?_
  refine ow_icmp_ge (tgt := 32) d_Reader_isEstateNamed_10 (by decide) (fun c => ?_) (fun c => ?_)
  · replace T := T.1 c
    refine ow_iconst (v := 0) (by decide) d_Reader_isEstateNamed_32 ?_
    exact ow_zret d_Reader_isEstateNamed_33 rfl (by decide) T
  · replace T := T.2 c
    refine ow_aload_n 0 rfl d_Reader_isEstateNamed_13 ?_
    refine ow_gR (a := 28) 76 d_Reader_isEstateNamed_14 rfl rfl (by decide) rfl ⟨rfl, hR 13 3 (by decide)⟩ ?_
    refine ow_iload_n 2 rfl d_Reader_isEstateNamed_17 ?_
    obtain ⟨cI, T⟩ := T
    refine ow_hlaload d_Reader_isEstateNamed_18 (by decide) rfl rfl cI ?_
    refine ow_lload_n 1 rfl d_Reader_isEstateNamed_19 ?_
    refine ow_lcmp d_Reader_isEstateNamed_20 ?_
    refine ow_if_ne (tgt := 26) d_Reader_isEstateNamed_21 (by decide) (fun c => ?_) (fun c => ?_)
    · replace T := T.1 c
      refine ow_iinc 2 (v := (v3 + 1)) (ls2 := [(3, .int (v3 + 1)), (0, .ref 13), (1, .long v1)]) d_Reader_isEstateNamed_26 rfl rfl (by decide) rfl ?_
      refine ow_goto (tgt := 2) d_Reader_isEstateNamed_29 (by decide) ?_
      refine ow_sub [1, 2, 0] rfl ?_
      exact T
    · replace T := T.2 c
      refine ow_iconst (v := 1) (by decide) d_Reader_isEstateNamed_24 ?_
      exact ow_zret d_Reader_isEstateNamed_25 rfl (by decide) T
set_option maxRecDepth 4000 in
theorem t_Reader_isEstateNamed {d : Nat} {I : Nat → Nat → Int32} {J : Nat → Nat → Int64} {R : Nat → Nat → Option Nat} {Q : Option Value → ow_H → Prop} {p1 : Int64}  (hR : ow_RF R) (T : ow_AW ow_Y0 (ow_Z Q) M_Reader_isEstateNamed (d + 1) 0 0 2 [(0, .ref 13), (1, .long p1), (3, .int 0)] [] (85, I, J, R) 0 0) : ow_AM M_Reader_isEstateNamed (d + 1) [.ref 13, .long p1] (85, I, J, R) Q := by
  refine ow_enter (by decide) (Nat.le_of_ble_eq_true rfl) ?_
  show ow_AW ow_Y0 (ow_Z Q) M_Reader_isEstateNamed (d + 1) 0 0 0 [(0, .ref 13), (1, .long p1)] [] (85, I, J, R) 0 0
  refine ow_iconst (v := 0) (by decide) d_Reader_isEstateNamed_0 ?_
  refine ow_istore_n (ls2 := [(3, .int 0), (0, .ref 13), (1, .long p1)]) d_Reader_isEstateNamed_1 (by decide) rfl ?_
  refine ow_sub [1, 2, 0] rfl ?_
  exact T
