/-! Own rows, by program: Tokens_open Tokens_advance Tokens_isWord Tokens_wordCode Tokens_wholeValue Tokens_countRun -/
theorem d_Tokens_open_0 : decode M_Tokens_open.2.1 0 = .ok (.aload_n 0, 1) := by decide +kernel
theorem d_Tokens_open_1 : decode M_Tokens_open.2.1 1 = .ok (.aload_n 1, 1) := by decide +kernel
theorem d_Tokens_open_2 : decode M_Tokens_open.2.1 2 = .ok (.putfield 7, 3) := by decide +kernel
theorem d_Tokens_open_5 : decode M_Tokens_open.2.1 5 = .ok (.aload_n 0, 1) := by decide +kernel
theorem d_Tokens_open_6 : decode M_Tokens_open.2.1 6 = .ok (.iload_n 2, 1) := by decide +kernel
theorem d_Tokens_open_7 : decode M_Tokens_open.2.1 7 = .ok (.aload_n 1, 1) := by decide +kernel
theorem d_Tokens_open_8 : decode M_Tokens_open.2.1 8 = .ok (.arraylength, 1) := by decide +kernel
theorem d_Tokens_open_9 : decode M_Tokens_open.2.1 9 = .ok (.invokestatic 13, 3) := by decide +kernel
theorem d_Tokens_open_12 : decode M_Tokens_open.2.1 12 = .ok (.putfield 19, 3) := by decide +kernel
theorem d_Tokens_open_15 : decode M_Tokens_open.2.1 15 = .ok (.aload_n 0, 1) := by decide +kernel
theorem d_Tokens_open_16 : decode M_Tokens_open.2.1 16 = .ok (.iconst 0, 1) := by decide +kernel
theorem d_Tokens_open_17 : decode M_Tokens_open.2.1 17 = .ok (.putfield 23, 3) := by decide +kernel
theorem d_Tokens_open_20 : decode M_Tokens_open.2.1 20 = .ok (.aload_n 0, 1) := by decide +kernel
theorem d_Tokens_open_21 : decode M_Tokens_open.2.1 21 = .ok (.invokevirtual 26, 3) := by decide +kernel
theorem d_Tokens_open_24 : decode M_Tokens_open.2.1 24 = .ok (.return_, 1) := by decide +kernel
theorem d_Tokens_advance_0 : decode M_Tokens_advance.2.1 0 = .ok (.aload_n 0, 1) := by decide +kernel
theorem d_Tokens_advance_1 : decode M_Tokens_advance.2.1 1 = .ok (.dup, 1) := by decide +kernel
theorem d_Tokens_advance_2 : decode M_Tokens_advance.2.1 2 = .ok (.getfield 23, 3) := by decide +kernel
theorem d_Tokens_advance_5 : decode M_Tokens_advance.2.1 5 = .ok (.aload_n 0, 1) := by decide +kernel
theorem d_Tokens_advance_6 : decode M_Tokens_advance.2.1 6 = .ok (.bipush 32, 2) := by decide +kernel
theorem d_Tokens_advance_8 : decode M_Tokens_advance.2.1 8 = .ok (.bipush 32, 2) := by decide +kernel
theorem d_Tokens_advance_10 : decode M_Tokens_advance.2.1 10 = .ok (.invokevirtual 29, 3) := by decide +kernel
theorem d_Tokens_advance_13 : decode M_Tokens_advance.2.1 13 = .ok (.iadd, 1) := by decide +kernel
theorem d_Tokens_advance_14 : decode M_Tokens_advance.2.1 14 = .ok (.putfield 23, 3) := by decide +kernel
theorem d_Tokens_advance_17 : decode M_Tokens_advance.2.1 17 = .ok (.aload_n 0, 1) := by decide +kernel
theorem d_Tokens_advance_18 : decode M_Tokens_advance.2.1 18 = .ok (.aload_n 0, 1) := by decide +kernel
theorem d_Tokens_advance_19 : decode M_Tokens_advance.2.1 19 = .ok (.getfield 23, 3) := by decide +kernel
theorem d_Tokens_advance_22 : decode M_Tokens_advance.2.1 22 = .ok (.putfield 33, 3) := by decide +kernel
theorem d_Tokens_advance_25 : decode M_Tokens_advance.2.1 25 = .ok (.aload_n 0, 1) := by decide +kernel
theorem d_Tokens_advance_26 : decode M_Tokens_advance.2.1 26 = .ok (.bipush 97, 2) := by decide +kernel
theorem d_Tokens_advance_28 : decode M_Tokens_advance.2.1 28 = .ok (.bipush 122, 2) := by decide +kernel
theorem d_Tokens_advance_30 : decode M_Tokens_advance.2.1 30 = .ok (.invokevirtual 29, 3) := by decide +kernel
theorem d_Tokens_advance_33 : decode M_Tokens_advance.2.1 33 = .ok (.istore_n 1, 1) := by decide +kernel
theorem d_Tokens_advance_34 : decode M_Tokens_advance.2.1 34 = .ok (.aload_n 0, 1) := by decide +kernel
theorem d_Tokens_advance_35 : decode M_Tokens_advance.2.1 35 = .ok (.bipush 48, 2) := by decide +kernel
theorem d_Tokens_advance_37 : decode M_Tokens_advance.2.1 37 = .ok (.bipush 57, 2) := by decide +kernel
theorem d_Tokens_advance_39 : decode M_Tokens_advance.2.1 39 = .ok (.invokevirtual 29, 3) := by decide +kernel
theorem d_Tokens_advance_42 : decode M_Tokens_advance.2.1 42 = .ok (.istore_n 2, 1) := by decide +kernel
theorem d_Tokens_advance_43 : decode M_Tokens_advance.2.1 43 = .ok (.aload_n 0, 1) := by decide +kernel
theorem d_Tokens_advance_44 : decode M_Tokens_advance.2.1 44 = .ok (.dup, 1) := by decide +kernel
theorem d_Tokens_advance_45 : decode M_Tokens_advance.2.1 45 = .ok (.getfield 23, 3) := by decide +kernel
theorem d_Tokens_advance_48 : decode M_Tokens_advance.2.1 48 = .ok (.iload_n 1, 1) := by decide +kernel
theorem d_Tokens_advance_49 : decode M_Tokens_advance.2.1 49 = .ok (.iload_n 2, 1) := by decide +kernel
theorem d_Tokens_advance_50 : decode M_Tokens_advance.2.1 50 = .ok (.iadd, 1) := by decide +kernel
theorem d_Tokens_advance_51 : decode M_Tokens_advance.2.1 51 = .ok (.iadd, 1) := by decide +kernel
theorem d_Tokens_advance_52 : decode M_Tokens_advance.2.1 52 = .ok (.putfield 23, 3) := by decide +kernel
theorem d_Tokens_advance_55 : decode M_Tokens_advance.2.1 55 = .ok (.iload_n 1, 1) := by decide +kernel
theorem d_Tokens_advance_56 : decode M_Tokens_advance.2.1 56 = .ok (.ifCond .le 21, 3) := by decide +kernel
theorem d_Tokens_advance_59 : decode M_Tokens_advance.2.1 59 = .ok (.aload_n 0, 1) := by decide +kernel
theorem d_Tokens_advance_60 : decode M_Tokens_advance.2.1 60 = .ok (.iload_n 1, 1) := by decide +kernel
theorem d_Tokens_advance_61 : decode M_Tokens_advance.2.1 61 = .ok (.bipush 8, 2) := by decide +kernel
theorem d_Tokens_advance_63 : decode M_Tokens_advance.2.1 63 = .ok (.if_icmp .gt 7, 3) := by decide +kernel
theorem d_Tokens_advance_66 : decode M_Tokens_advance.2.1 66 = .ok (.iconst 1, 1) := by decide +kernel
theorem d_Tokens_advance_67 : decode M_Tokens_advance.2.1 67 = .ok (.goto 4, 3) := by decide +kernel
theorem d_Tokens_advance_70 : decode M_Tokens_advance.2.1 70 = .ok (.iconst 4, 1) := by decide +kernel
theorem d_Tokens_advance_71 : decode M_Tokens_advance.2.1 71 = .ok (.putfield 36, 3) := by decide +kernel
theorem d_Tokens_advance_74 : decode M_Tokens_advance.2.1 74 = .ok (.goto 76, 3) := by decide +kernel
theorem d_Tokens_advance_77 : decode M_Tokens_advance.2.1 77 = .ok (.iload_n 2, 1) := by decide +kernel
theorem d_Tokens_advance_78 : decode M_Tokens_advance.2.1 78 = .ok (.ifCond .le 20, 3) := by decide +kernel
theorem d_Tokens_advance_81 : decode M_Tokens_advance.2.1 81 = .ok (.aload_n 0, 1) := by decide +kernel
theorem d_Tokens_advance_82 : decode M_Tokens_advance.2.1 82 = .ok (.iload_n 2, 1) := by decide +kernel
theorem d_Tokens_advance_83 : decode M_Tokens_advance.2.1 83 = .ok (.iconst 3, 1) := by decide +kernel
theorem d_Tokens_advance_84 : decode M_Tokens_advance.2.1 84 = .ok (.if_icmp .gt 7, 3) := by decide +kernel
theorem d_Tokens_advance_87 : decode M_Tokens_advance.2.1 87 = .ok (.iconst 2, 1) := by decide +kernel
theorem d_Tokens_advance_88 : decode M_Tokens_advance.2.1 88 = .ok (.goto 4, 3) := by decide +kernel
theorem d_Tokens_advance_91 : decode M_Tokens_advance.2.1 91 = .ok (.iconst 4, 1) := by decide +kernel
theorem d_Tokens_advance_92 : decode M_Tokens_advance.2.1 92 = .ok (.putfield 36, 3) := by decide +kernel
theorem d_Tokens_advance_95 : decode M_Tokens_advance.2.1 95 = .ok (.goto 55, 3) := by decide +kernel
theorem d_Tokens_advance_98 : decode M_Tokens_advance.2.1 98 = .ok (.aload_n 0, 1) := by decide +kernel
theorem d_Tokens_advance_99 : decode M_Tokens_advance.2.1 99 = .ok (.getfield 23, 3) := by decide +kernel
theorem d_Tokens_advance_102 : decode M_Tokens_advance.2.1 102 = .ok (.aload_n 0, 1) := by decide +kernel
theorem d_Tokens_advance_103 : decode M_Tokens_advance.2.1 103 = .ok (.getfield 19, 3) := by decide +kernel
theorem d_Tokens_advance_106 : decode M_Tokens_advance.2.1 106 = .ok (.if_icmp .lt 11, 3) := by decide +kernel
theorem d_Tokens_advance_109 : decode M_Tokens_advance.2.1 109 = .ok (.aload_n 0, 1) := by decide +kernel
theorem d_Tokens_advance_110 : decode M_Tokens_advance.2.1 110 = .ok (.iconst 0, 1) := by decide +kernel
theorem d_Tokens_advance_111 : decode M_Tokens_advance.2.1 111 = .ok (.putfield 36, 3) := by decide +kernel
theorem d_Tokens_advance_114 : decode M_Tokens_advance.2.1 114 = .ok (.goto 36, 3) := by decide +kernel
theorem d_Tokens_advance_117 : decode M_Tokens_advance.2.1 117 = .ok (.aload_n 0, 1) := by decide +kernel
theorem d_Tokens_advance_118 : decode M_Tokens_advance.2.1 118 = .ok (.aload_n 0, 1) := by decide +kernel
theorem d_Tokens_advance_119 : decode M_Tokens_advance.2.1 119 = .ok (.getfield 7, 3) := by decide +kernel
theorem d_Tokens_advance_122 : decode M_Tokens_advance.2.1 122 = .ok (.aload_n 0, 1) := by decide +kernel
theorem d_Tokens_advance_123 : decode M_Tokens_advance.2.1 123 = .ok (.getfield 23, 3) := by decide +kernel
theorem d_Tokens_advance_126 : decode M_Tokens_advance.2.1 126 = .ok (.baload, 1) := by decide +kernel
theorem d_Tokens_advance_127 : decode M_Tokens_advance.2.1 127 = .ok (.bipush 59, 2) := by decide +kernel
theorem d_Tokens_advance_129 : decode M_Tokens_advance.2.1 129 = .ok (.if_icmp .ne 7, 3) := by decide +kernel
theorem d_Tokens_advance_132 : decode M_Tokens_advance.2.1 132 = .ok (.iconst 3, 1) := by decide +kernel
theorem d_Tokens_advance_133 : decode M_Tokens_advance.2.1 133 = .ok (.goto 4, 3) := by decide +kernel
theorem d_Tokens_advance_136 : decode M_Tokens_advance.2.1 136 = .ok (.iconst 4, 1) := by decide +kernel
theorem d_Tokens_advance_137 : decode M_Tokens_advance.2.1 137 = .ok (.putfield 36, 3) := by decide +kernel
theorem d_Tokens_advance_140 : decode M_Tokens_advance.2.1 140 = .ok (.aload_n 0, 1) := by decide +kernel
theorem d_Tokens_advance_141 : decode M_Tokens_advance.2.1 141 = .ok (.dup, 1) := by decide +kernel
theorem d_Tokens_advance_142 : decode M_Tokens_advance.2.1 142 = .ok (.getfield 23, 3) := by decide +kernel
theorem d_Tokens_advance_145 : decode M_Tokens_advance.2.1 145 = .ok (.iconst 1, 1) := by decide +kernel
theorem d_Tokens_advance_146 : decode M_Tokens_advance.2.1 146 = .ok (.iadd, 1) := by decide +kernel
theorem d_Tokens_advance_147 : decode M_Tokens_advance.2.1 147 = .ok (.putfield 23, 3) := by decide +kernel
theorem d_Tokens_advance_150 : decode M_Tokens_advance.2.1 150 = .ok (.return_, 1) := by decide +kernel
theorem d_Tokens_isWord_0 : decode M_Tokens_isWord.2.1 0 = .ok (.aload_n 0, 1) := by decide +kernel
theorem d_Tokens_isWord_1 : decode M_Tokens_isWord.2.1 1 = .ok (.getfield 36, 3) := by decide +kernel
theorem d_Tokens_isWord_4 : decode M_Tokens_isWord.2.1 4 = .ok (.iconst 1, 1) := by decide +kernel
theorem d_Tokens_isWord_5 : decode M_Tokens_isWord.2.1 5 = .ok (.if_icmp .ne 19, 3) := by decide +kernel
theorem d_Tokens_isWord_8 : decode M_Tokens_isWord.2.1 8 = .ok (.aload_n 1, 1) := by decide +kernel
theorem d_Tokens_isWord_9 : decode M_Tokens_isWord.2.1 9 = .ok (.invokevirtual 39, 3) := by decide +kernel
theorem d_Tokens_isWord_12 : decode M_Tokens_isWord.2.1 12 = .ok (.aload_n 0, 1) := by decide +kernel
theorem d_Tokens_isWord_13 : decode M_Tokens_isWord.2.1 13 = .ok (.getfield 23, 3) := by decide +kernel
theorem d_Tokens_isWord_16 : decode M_Tokens_isWord.2.1 16 = .ok (.aload_n 0, 1) := by decide +kernel
theorem d_Tokens_isWord_17 : decode M_Tokens_isWord.2.1 17 = .ok (.getfield 33, 3) := by decide +kernel
theorem d_Tokens_isWord_20 : decode M_Tokens_isWord.2.1 20 = .ok (.isub, 1) := by decide +kernel
theorem d_Tokens_isWord_21 : decode M_Tokens_isWord.2.1 21 = .ok (.if_icmp .eq 5, 3) := by decide +kernel
theorem d_Tokens_isWord_24 : decode M_Tokens_isWord.2.1 24 = .ok (.iconst 0, 1) := by decide +kernel
theorem d_Tokens_isWord_25 : decode M_Tokens_isWord.2.1 25 = .ok (.ireturn, 1) := by decide +kernel
theorem d_Tokens_isWord_26 : decode M_Tokens_isWord.2.1 26 = .ok (.aload_n 0, 1) := by decide +kernel
theorem d_Tokens_isWord_27 : decode M_Tokens_isWord.2.1 27 = .ok (.getfield 33, 3) := by decide +kernel
theorem d_Tokens_isWord_30 : decode M_Tokens_isWord.2.1 30 = .ok (.istore_n 2, 1) := by decide +kernel
theorem d_Tokens_isWord_31 : decode M_Tokens_isWord.2.1 31 = .ok (.iload_n 2, 1) := by decide +kernel
theorem d_Tokens_isWord_32 : decode M_Tokens_isWord.2.1 32 = .ok (.aload_n 0, 1) := by decide +kernel
theorem d_Tokens_isWord_33 : decode M_Tokens_isWord.2.1 33 = .ok (.getfield 23, 3) := by decide +kernel
theorem d_Tokens_isWord_36 : decode M_Tokens_isWord.2.1 36 = .ok (.if_icmp .ge 30, 3) := by decide +kernel
theorem d_Tokens_isWord_39 : decode M_Tokens_isWord.2.1 39 = .ok (.aload_n 0, 1) := by decide +kernel
theorem d_Tokens_isWord_40 : decode M_Tokens_isWord.2.1 40 = .ok (.getfield 7, 3) := by decide +kernel
theorem d_Tokens_isWord_43 : decode M_Tokens_isWord.2.1 43 = .ok (.iload_n 2, 1) := by decide +kernel
theorem d_Tokens_isWord_44 : decode M_Tokens_isWord.2.1 44 = .ok (.baload, 1) := by decide +kernel
theorem d_Tokens_isWord_45 : decode M_Tokens_isWord.2.1 45 = .ok (.aload_n 1, 1) := by decide +kernel
theorem d_Tokens_isWord_46 : decode M_Tokens_isWord.2.1 46 = .ok (.iload_n 2, 1) := by decide +kernel
theorem d_Tokens_isWord_47 : decode M_Tokens_isWord.2.1 47 = .ok (.aload_n 0, 1) := by decide +kernel
theorem d_Tokens_isWord_48 : decode M_Tokens_isWord.2.1 48 = .ok (.getfield 33, 3) := by decide +kernel
theorem d_Tokens_isWord_51 : decode M_Tokens_isWord.2.1 51 = .ok (.isub, 1) := by decide +kernel
theorem d_Tokens_isWord_52 : decode M_Tokens_isWord.2.1 52 = .ok (.invokevirtual 45, 3) := by decide +kernel
theorem d_Tokens_isWord_55 : decode M_Tokens_isWord.2.1 55 = .ok (.if_icmp .eq 5, 3) := by decide +kernel
theorem d_Tokens_isWord_58 : decode M_Tokens_isWord.2.1 58 = .ok (.iconst 0, 1) := by decide +kernel
theorem d_Tokens_isWord_59 : decode M_Tokens_isWord.2.1 59 = .ok (.ireturn, 1) := by decide +kernel
theorem d_Tokens_isWord_60 : decode M_Tokens_isWord.2.1 60 = .ok (.iinc 2 1, 3) := by decide +kernel
theorem d_Tokens_isWord_63 : decode M_Tokens_isWord.2.1 63 = .ok (.goto (-32), 3) := by decide +kernel
theorem d_Tokens_isWord_66 : decode M_Tokens_isWord.2.1 66 = .ok (.iconst 1, 1) := by decide +kernel
theorem d_Tokens_isWord_67 : decode M_Tokens_isWord.2.1 67 = .ok (.ireturn, 1) := by decide +kernel
theorem d_Tokens_wordCode_0 : decode M_Tokens_wordCode.2.1 0 = .ok (.lconst 0, 1) := by decide +kernel
theorem d_Tokens_wordCode_1 : decode M_Tokens_wordCode.2.1 1 = .ok (.lstore_n 1, 1) := by decide +kernel
theorem d_Tokens_wordCode_2 : decode M_Tokens_wordCode.2.1 2 = .ok (.aload_n 0, 1) := by decide +kernel
theorem d_Tokens_wordCode_3 : decode M_Tokens_wordCode.2.1 3 = .ok (.getfield 33, 3) := by decide +kernel
theorem d_Tokens_wordCode_6 : decode M_Tokens_wordCode.2.1 6 = .ok (.istore_n 3, 1) := by decide +kernel
theorem d_Tokens_wordCode_7 : decode M_Tokens_wordCode.2.1 7 = .ok (.iload_n 3, 1) := by decide +kernel
theorem d_Tokens_wordCode_8 : decode M_Tokens_wordCode.2.1 8 = .ok (.aload_n 0, 1) := by decide +kernel
theorem d_Tokens_wordCode_9 : decode M_Tokens_wordCode.2.1 9 = .ok (.getfield 23, 3) := by decide +kernel
theorem d_Tokens_wordCode_12 : decode M_Tokens_wordCode.2.1 12 = .ok (.if_icmp .ge 26, 3) := by decide +kernel
theorem d_Tokens_wordCode_15 : decode M_Tokens_wordCode.2.1 15 = .ok (.lload_n 1, 1) := by decide +kernel
theorem d_Tokens_wordCode_16 : decode M_Tokens_wordCode.2.1 16 = .ok (.iconst 5, 1) := by decide +kernel
theorem d_Tokens_wordCode_17 : decode M_Tokens_wordCode.2.1 17 = .ok (.lshl, 1) := by decide +kernel
theorem d_Tokens_wordCode_18 : decode M_Tokens_wordCode.2.1 18 = .ok (.aload_n 0, 1) := by decide +kernel
theorem d_Tokens_wordCode_19 : decode M_Tokens_wordCode.2.1 19 = .ok (.getfield 7, 3) := by decide +kernel
theorem d_Tokens_wordCode_22 : decode M_Tokens_wordCode.2.1 22 = .ok (.iload_n 3, 1) := by decide +kernel
theorem d_Tokens_wordCode_23 : decode M_Tokens_wordCode.2.1 23 = .ok (.baload, 1) := by decide +kernel
theorem d_Tokens_wordCode_24 : decode M_Tokens_wordCode.2.1 24 = .ok (.bipush 97, 2) := by decide +kernel
theorem d_Tokens_wordCode_26 : decode M_Tokens_wordCode.2.1 26 = .ok (.isub, 1) := by decide +kernel
theorem d_Tokens_wordCode_27 : decode M_Tokens_wordCode.2.1 27 = .ok (.iconst 1, 1) := by decide +kernel
theorem d_Tokens_wordCode_28 : decode M_Tokens_wordCode.2.1 28 = .ok (.iadd, 1) := by decide +kernel
theorem d_Tokens_wordCode_29 : decode M_Tokens_wordCode.2.1 29 = .ok (.i2l, 1) := by decide +kernel
theorem d_Tokens_wordCode_30 : decode M_Tokens_wordCode.2.1 30 = .ok (.ladd, 1) := by decide +kernel
theorem d_Tokens_wordCode_31 : decode M_Tokens_wordCode.2.1 31 = .ok (.lstore_n 1, 1) := by decide +kernel
theorem d_Tokens_wordCode_32 : decode M_Tokens_wordCode.2.1 32 = .ok (.iinc 3 1, 3) := by decide +kernel
theorem d_Tokens_wordCode_35 : decode M_Tokens_wordCode.2.1 35 = .ok (.goto (-28), 3) := by decide +kernel
theorem d_Tokens_wordCode_38 : decode M_Tokens_wordCode.2.1 38 = .ok (.lload_n 1, 1) := by decide +kernel
theorem d_Tokens_wordCode_39 : decode M_Tokens_wordCode.2.1 39 = .ok (.lreturn, 1) := by decide +kernel
theorem d_Tokens_wholeValue_0 : decode M_Tokens_wholeValue.2.1 0 = .ok (.iconst 0, 1) := by decide +kernel
theorem d_Tokens_wholeValue_1 : decode M_Tokens_wholeValue.2.1 1 = .ok (.istore_n 1, 1) := by decide +kernel
theorem d_Tokens_wholeValue_2 : decode M_Tokens_wholeValue.2.1 2 = .ok (.aload_n 0, 1) := by decide +kernel
theorem d_Tokens_wholeValue_3 : decode M_Tokens_wholeValue.2.1 3 = .ok (.getfield 33, 3) := by decide +kernel
theorem d_Tokens_wholeValue_6 : decode M_Tokens_wholeValue.2.1 6 = .ok (.istore_n 2, 1) := by decide +kernel
theorem d_Tokens_wholeValue_7 : decode M_Tokens_wholeValue.2.1 7 = .ok (.iload_n 2, 1) := by decide +kernel
theorem d_Tokens_wholeValue_8 : decode M_Tokens_wholeValue.2.1 8 = .ok (.aload_n 0, 1) := by decide +kernel
theorem d_Tokens_wholeValue_9 : decode M_Tokens_wholeValue.2.1 9 = .ok (.getfield 23, 3) := by decide +kernel
theorem d_Tokens_wholeValue_12 : decode M_Tokens_wholeValue.2.1 12 = .ok (.if_icmp .ge 24, 3) := by decide +kernel
theorem d_Tokens_wholeValue_15 : decode M_Tokens_wholeValue.2.1 15 = .ok (.iload_n 1, 1) := by decide +kernel
theorem d_Tokens_wholeValue_16 : decode M_Tokens_wholeValue.2.1 16 = .ok (.bipush 10, 2) := by decide +kernel
theorem d_Tokens_wholeValue_18 : decode M_Tokens_wholeValue.2.1 18 = .ok (.imul, 1) := by decide +kernel
theorem d_Tokens_wholeValue_19 : decode M_Tokens_wholeValue.2.1 19 = .ok (.aload_n 0, 1) := by decide +kernel
theorem d_Tokens_wholeValue_20 : decode M_Tokens_wholeValue.2.1 20 = .ok (.getfield 7, 3) := by decide +kernel
theorem d_Tokens_wholeValue_23 : decode M_Tokens_wholeValue.2.1 23 = .ok (.iload_n 2, 1) := by decide +kernel
theorem d_Tokens_wholeValue_24 : decode M_Tokens_wholeValue.2.1 24 = .ok (.baload, 1) := by decide +kernel
theorem d_Tokens_wholeValue_25 : decode M_Tokens_wholeValue.2.1 25 = .ok (.bipush 48, 2) := by decide +kernel
theorem d_Tokens_wholeValue_27 : decode M_Tokens_wholeValue.2.1 27 = .ok (.isub, 1) := by decide +kernel
theorem d_Tokens_wholeValue_28 : decode M_Tokens_wholeValue.2.1 28 = .ok (.iadd, 1) := by decide +kernel
theorem d_Tokens_wholeValue_29 : decode M_Tokens_wholeValue.2.1 29 = .ok (.istore_n 1, 1) := by decide +kernel
theorem d_Tokens_wholeValue_30 : decode M_Tokens_wholeValue.2.1 30 = .ok (.iinc 2 1, 3) := by decide +kernel
theorem d_Tokens_wholeValue_33 : decode M_Tokens_wholeValue.2.1 33 = .ok (.goto (-26), 3) := by decide +kernel
theorem d_Tokens_wholeValue_36 : decode M_Tokens_wholeValue.2.1 36 = .ok (.iload_n 1, 1) := by decide +kernel
theorem d_Tokens_wholeValue_37 : decode M_Tokens_wholeValue.2.1 37 = .ok (.ireturn, 1) := by decide +kernel
theorem d_Tokens_countRun_0 : decode M_Tokens_countRun.2.1 0 = .ok (.aload_n 0, 1) := by decide +kernel
theorem d_Tokens_countRun_1 : decode M_Tokens_countRun.2.1 1 = .ok (.getfield 23, 3) := by decide +kernel
theorem d_Tokens_countRun_4 : decode M_Tokens_countRun.2.1 4 = .ok (.istore_n 3, 1) := by decide +kernel
theorem d_Tokens_countRun_5 : decode M_Tokens_countRun.2.1 5 = .ok (.iload_n 3, 1) := by decide +kernel
theorem d_Tokens_countRun_6 : decode M_Tokens_countRun.2.1 6 = .ok (.aload_n 0, 1) := by decide +kernel
theorem d_Tokens_countRun_7 : decode M_Tokens_countRun.2.1 7 = .ok (.getfield 19, 3) := by decide +kernel
theorem d_Tokens_countRun_10 : decode M_Tokens_countRun.2.1 10 = .ok (.if_icmp .ge 29, 3) := by decide +kernel
theorem d_Tokens_countRun_13 : decode M_Tokens_countRun.2.1 13 = .ok (.aload_n 0, 1) := by decide +kernel
theorem d_Tokens_countRun_14 : decode M_Tokens_countRun.2.1 14 = .ok (.getfield 7, 3) := by decide +kernel
theorem d_Tokens_countRun_17 : decode M_Tokens_countRun.2.1 17 = .ok (.iload_n 3, 1) := by decide +kernel
theorem d_Tokens_countRun_18 : decode M_Tokens_countRun.2.1 18 = .ok (.baload, 1) := by decide +kernel
theorem d_Tokens_countRun_19 : decode M_Tokens_countRun.2.1 19 = .ok (.iload_n 1, 1) := by decide +kernel
theorem d_Tokens_countRun_20 : decode M_Tokens_countRun.2.1 20 = .ok (.if_icmp .lt 19, 3) := by decide +kernel
theorem d_Tokens_countRun_23 : decode M_Tokens_countRun.2.1 23 = .ok (.aload_n 0, 1) := by decide +kernel
theorem d_Tokens_countRun_24 : decode M_Tokens_countRun.2.1 24 = .ok (.getfield 7, 3) := by decide +kernel
theorem d_Tokens_countRun_27 : decode M_Tokens_countRun.2.1 27 = .ok (.iload_n 3, 1) := by decide +kernel
theorem d_Tokens_countRun_28 : decode M_Tokens_countRun.2.1 28 = .ok (.baload, 1) := by decide +kernel
theorem d_Tokens_countRun_29 : decode M_Tokens_countRun.2.1 29 = .ok (.iload_n 2, 1) := by decide +kernel
theorem d_Tokens_countRun_30 : decode M_Tokens_countRun.2.1 30 = .ok (.if_icmp .gt 9, 3) := by decide +kernel
theorem d_Tokens_countRun_33 : decode M_Tokens_countRun.2.1 33 = .ok (.iinc 3 1, 3) := by decide +kernel
theorem d_Tokens_countRun_36 : decode M_Tokens_countRun.2.1 36 = .ok (.goto (-31), 3) := by decide +kernel
theorem d_Tokens_countRun_39 : decode M_Tokens_countRun.2.1 39 = .ok (.iload_n 3, 1) := by decide +kernel
theorem d_Tokens_countRun_40 : decode M_Tokens_countRun.2.1 40 = .ok (.aload_n 0, 1) := by decide +kernel
theorem d_Tokens_countRun_41 : decode M_Tokens_countRun.2.1 41 = .ok (.getfield 23, 3) := by decide +kernel
theorem d_Tokens_countRun_44 : decode M_Tokens_countRun.2.1 44 = .ok (.isub, 1) := by decide +kernel
theorem d_Tokens_countRun_45 : decode M_Tokens_countRun.2.1 45 = .ok (.ireturn, 1) := by decide +kernel
set_option maxRecDepth 4000 in
theorem t_Tokens_open {d : Nat} {I : Nat → Nat → Int32} {J : Nat → Nat → Int64} {R : Nat → Nat → Option Nat} {Q : Option Value → ow_H → Prop} {p1 : Int32}  (hR : ow_RF R) (T : (∀ (R7 : Nat → Nat → Option Nat), R7 = ow_u R 25 0 (some 1) → (∀ (I8 : Nat → Nat → Int32), I8 = ow_u I 25 1 (if 900 < p1 then 900 else p1) → (∀ (I9 : Nat → Nat → Int32), I9 = ow_u I8 25 2 0 → (ow_AM M_Tokens_advance d [.ref 25] (85, I9, J, R7) (fun r h' => ∃ (I10 : Nat → Nat → Int32) (J10 : Nat → Nat → Int64) (R10 : Nat → Nat → Option Nat), r = none ∧ h' = (85, I10, J10, R10) ∧ ow_RF R10 ∧ R10 25 0 = some 1 ∧ Q none (85, I10, J10, R10))))))) : ow_AM M_Tokens_open (d + 1) [.ref 25, .ref 1, .int p1] (85, I, J, R) Q := by
  refine ow_enter (by decide) (Nat.le_of_ble_eq_true rfl) ?_
  show ow_AW ow_Y0 (ow_Z Q) M_Tokens_open (d + 1) 0 0 0 [(0, .ref 25), (1, .ref 1), (2, .int p1)] [] (85, I, J, R) 0 0
  refine ow_aload_n 0 rfl d_Tokens_open_0 ?_
  refine ow_aload_n 1 rfl d_Tokens_open_1 ?_
  refine ow_pR (ty := .byte) 65 d_Tokens_open_2 rfl rfl (by decide) rfl rfl rfl rfl ?_
  obtain ⟨R7, eR7⟩ : ∃ uu, uu = ow_u R 25 0 (some 1) := ⟨_, rfl⟩
  replace T := T R7 eR7
  rw [← eR7]
  have hR7 : ow_RF R7 := by rw [eR7]; exact fun o k q => (ow_u_ne2 q).trans (hR o k q)
  have hTx : R7 25 0 = some 1 := by rw [eR7]; exact ow_u_at
  refine ow_aload_n 0 rfl d_Tokens_open_5 ?_
  refine ow_iload_n 2 rfl d_Tokens_open_6 ?_
  refine ow_aload_n 1 rfl d_Tokens_open_7 ?_
  refine ow_alen_b d_Tokens_open_8 (show 1 < 85 by decide) rfl ?_
  show ow_AW ow_Y0 (ow_Z Q) M_Tokens_open (d + 1) 0 0 9 [(0, .ref 25), (1, .ref 1), (2, .int p1)] [.int 900, .int p1, .ref 25] (85, I, J, R7) 0 0
  refine ow_mmin d_Tokens_open_9 l_Tokens_13 (Nat.succ_le_succ (Nat.zero_le _)) (Nat.le_of_ble_eq_true rfl) ⟨Nat.le_refl _, Nat.le_refl _⟩ ?_
  refine ow_pI 66 d_Tokens_open_12 rfl rfl (by decide) rfl rfl rfl ?_
  obtain ⟨I8, eI8⟩ : ∃ uu, uu = ow_u I 25 1 (if 900 < p1 then 900 else p1) := ⟨_, rfl⟩
  replace T := T I8 eI8
  rw [← eI8]
  refine ow_aload_n 0 rfl d_Tokens_open_15 ?_
  refine ow_iconst (v := 0) (by decide) d_Tokens_open_16 ?_
  refine ow_pI 67 d_Tokens_open_17 rfl rfl (by decide) rfl rfl rfl ?_
  obtain ⟨I9, eI9⟩ : ∃ uu, uu = ow_u I8 25 2 0 := ⟨_, rfl⟩
  replace T := T I9 eI9
  rw [← eI9]
  refine ow_aload_n 0 rfl d_Tokens_open_20 ?_
  refine ow_callV (b := 25) (cq := 7) (As := []) (rest := []) (d2 := d) d_Tokens_open_21 l_Tokens_26 v_Tokens_advance (show 25 < 85 by decide) rfl (by decide) rfl (Nat.le_of_ble_eq_true rfl) (Nat.le_refl _) ⟨Nat.le_refl _, Nat.le_refl _⟩ (ow_mono T ?_)
  rintro r h' ⟨I10, J10, R10, rfl, rfl, hR10, hTx, T⟩
  show ow_AW ow_Y0 (ow_Z Q) M_Tokens_open (d + 1) 0 0 24 [(0, .ref 25), (1, .ref 1), (2, .int p1)] [] (85, I10, J10, R10) 0 0
  exact ow_vret d_Tokens_open_24 rfl T
set_option maxRecDepth 4000 in
theorem t_Tokens_advance {d : Nat} {I : Nat → Nat → Int32} {J : Nat → Nat → Int64} {R : Nat → Nat → Option Nat} {Q : Option Value → ow_H → Prop}   (hR : ow_RF R) (hTx : R 25 0 = some 1) (T : (ow_AM M_Tokens_countRun d [.ref 25, .int 32, .int 32] (85, I, J, R) (fun r h' => ∃ (r16 : Int32) (I16 : Nat → Nat → Int32) (J16 : Nat → Nat → Int64) (R16 : Nat → Nat → Option Nat), r = some (.int r16) ∧ h' = (85, I16, J16, R16) ∧ ow_RF R16 ∧ R16 25 0 = some 1 ∧ (∀ (I17 : Nat → Nat → Int32), I17 = ow_u I16 25 2 ((I 25 2) + r16) → (∀ (I18 : Nat → Nat → Int32), I18 = ow_u I17 25 4 (I17 25 2) → (ow_AM M_Tokens_countRun d [.ref 25, .int 97, .int 122] (85, I18, J16, R16) (fun r h' => ∃ (r19 : Int32) (I19 : Nat → Nat → Int32) (J19 : Nat → Nat → Int64) (R19 : Nat → Nat → Option Nat), r = some (.int r19) ∧ h' = (85, I19, J19, R19) ∧ ow_RF R19 ∧ R19 25 0 = some 1 ∧ (ow_AM M_Tokens_countRun d [.ref 25, .int 48, .int 57] (85, I19, J19, R19) (fun r h' => ∃ (r20 : Int32) (I20 : Nat → Nat → Int32) (J20 : Nat → Nat → Int64) (R20 : Nat → Nat → Option Nat), r = some (.int r20) ∧ h' = (85, I20, J20, R20) ∧ ow_RF R20 ∧ R20 25 0 = some 1 ∧ (∀ (I21 : Nat → Nat → Int32), I21 = ow_u I20 25 2 ((I20 25 2) + (r19 + r20)) → ((r19 ≤ 0 → ((r20 ≤ 0 → (((I21 25 2) < (I21 25 1) → (vp_in (I21 25 2) 900 ∧ ((¬ (I21 1 (I21 25 2).toNatClampNeg) = 59 → (∀ (I22 : Nat → Nat → Int32), I22 = ow_u I21 25 3 4 → (∀ (I23 : Nat → Nat → Int32), I23 = ow_u I22 25 2 ((I22 25 2) + 1) → Q none (85, I23, J20, R20)))) ∧ ((I21 1 (I21 25 2).toNatClampNeg) = 59 → (∀ (I24 : Nat → Nat → Int32), I24 = ow_u I21 25 3 3 → (∀ (I25 : Nat → Nat → Int32), I25 = ow_u I24 25 2 ((I24 25 2) + 1) → Q none (85, I25, J20, R20))))))) ∧ (¬ (I21 25 2) < (I21 25 1) → (∀ (I26 : Nat → Nat → Int32), I26 = ow_u I21 25 3 0 → Q none (85, I26, J20, R20))))) ∧ (¬ r20 ≤ 0 → ((3 < r20 → (∀ (I27 : Nat → Nat → Int32), I27 = ow_u I21 25 3 4 → Q none (85, I27, J20, R20))) ∧ (¬ 3 < r20 → (∀ (I28 : Nat → Nat → Int32), I28 = ow_u I21 25 3 2 → Q none (85, I28, J20, R20))))))) ∧ (¬ r19 ≤ 0 → ((8 < r19 → (∀ (I29 : Nat → Nat → Int32), I29 = ow_u I21 25 3 4 → Q none (85, I29, J20, R20))) ∧ (¬ 8 < r19 → (∀ (I30 : Nat → Nat → Int32), I30 = ow_u I21 25 3 1 → Q none (85, I30, J20, R20)))))))))))))))) : ow_AM M_Tokens_advance (d + 1) [.ref 25] (85, I, J, R) Q := by
  refine ow_enter (by decide) (Nat.le_of_ble_eq_true rfl) ?_
  show ow_AW ow_Y0 (ow_Z Q) M_Tokens_advance (d + 1) 0 0 0 [(0, .ref 25)] [] (85, I, J, R) 0 0
  refine ow_aload_n 0 rfl d_Tokens_advance_0 ?_
  refine ow_dup rfl d_Tokens_advance_1 ?_
  refine ow_gI 67 d_Tokens_advance_2 rfl rfl (by decide) rfl (Or.inl rfl) ?_
  refine ow_aload_n 0 rfl d_Tokens_advance_5 ?_
  refine ow_bipush (v := 32) (by decide) d_Tokens_advance_6 ?_
  refine ow_bipush (v := 32) (by decide) d_Tokens_advance_8 ?_
  refine ow_callV (b := 25) (cq := 7) (As := [.int 32, .int 32]) (rest := [.int (I 25 2), .ref 25]) (d2 := d) d_Tokens_advance_10 l_Tokens_29 v_Tokens_countRun (show 25 < 85 by decide) rfl (by decide) rfl (Nat.le_of_ble_eq_true rfl) (Nat.le_refl _) ⟨Nat.le_refl _, Nat.le_refl _⟩ (ow_mono T ?_)
  rintro r h' ⟨r16, I16, J16, R16, rfl, rfl, hR16, hTx, T⟩
  show ow_AW ow_Y0 (ow_Z Q) M_Tokens_advance (d + 1) 0 0 13 [(0, .ref 25)] [.int r16, .int (I 25 2), .ref 25] (85, I16, J16, R16) 0 0
  refine ow_iadd d_Tokens_advance_13 ?_
  refine ow_pI 67 d_Tokens_advance_14 rfl rfl (by decide) rfl rfl rfl ?_
  obtain ⟨I17, eI17⟩ : ∃ uu, uu = ow_u I16 25 2 ((I 25 2) + r16) := ⟨_, rfl⟩
  replace T := T I17 eI17
  rw [← eI17]
  refine ow_aload_n 0 rfl d_Tokens_advance_17 ?_
  refine ow_aload_n 0 rfl d_Tokens_advance_18 ?_
  refine ow_gI 67 d_Tokens_advance_19 rfl rfl (by decide) rfl (Or.inl rfl) ?_
  refine ow_pI 71 d_Tokens_advance_22 rfl rfl (by decide) rfl rfl rfl ?_
  obtain ⟨I18, eI18⟩ : ∃ uu, uu = ow_u I17 25 4 (I17 25 2) := ⟨_, rfl⟩
  replace T := T I18 eI18
  rw [← eI18]
  refine ow_aload_n 0 rfl d_Tokens_advance_25 ?_
  refine ow_bipush (v := 97) (by decide) d_Tokens_advance_26 ?_
  refine ow_bipush (v := 122) (by decide) d_Tokens_advance_28 ?_
  refine ow_callV (b := 25) (cq := 7) (As := [.int 97, .int 122]) (rest := []) (d2 := d) d_Tokens_advance_30 l_Tokens_29 v_Tokens_countRun (show 25 < 85 by decide) rfl (by decide) rfl (Nat.le_of_ble_eq_true rfl) (Nat.le_refl _) ⟨Nat.le_refl _, Nat.le_refl _⟩ (ow_mono T ?_)
  rintro r h' ⟨r19, I19, J19, R19, rfl, rfl, hR19, hTx, T⟩
  show ow_AW ow_Y0 (ow_Z Q) M_Tokens_advance (d + 1) 0 0 33 [(0, .ref 25)] [.int r19] (85, I19, J19, R19) 0 0
  refine ow_istore_n (ls2 := [(1, .int r19), (0, .ref 25)]) d_Tokens_advance_33 (by decide) rfl ?_
  refine ow_aload_n 1 rfl d_Tokens_advance_34 ?_
  refine ow_bipush (v := 48) (by decide) d_Tokens_advance_35 ?_
  refine ow_bipush (v := 57) (by decide) d_Tokens_advance_37 ?_
  refine ow_callV (b := 25) (cq := 7) (As := [.int 48, .int 57]) (rest := []) (d2 := d) d_Tokens_advance_39 l_Tokens_29 v_Tokens_countRun (show 25 < 85 by decide) rfl (by decide) rfl (Nat.le_of_ble_eq_true rfl) (Nat.le_refl _) ⟨Nat.le_refl _, Nat.le_refl _⟩ (ow_mono T ?_)
  rintro r h' ⟨r20, I20, J20, R20, rfl, rfl, hR20, hTx, T⟩
  show ow_AW ow_Y0 (ow_Z Q) M_Tokens_advance (d + 1) 0 0 42 [(1, .int r19), (0, .ref 25)] [.int r20] (85, I20, J20, R20) 0 0
  refine ow_istore_n (ls2 := [(2, .int r20), (1, .int r19), (0, .ref 25)]) d_Tokens_advance_42 (by decide) rfl ?_
  refine ow_aload_n 2 rfl d_Tokens_advance_43 ?_
  refine ow_dup rfl d_Tokens_advance_44 ?_
  refine ow_gI 67 d_Tokens_advance_45 rfl rfl (by decide) rfl (Or.inl rfl) ?_
  refine ow_iload_n 1 rfl d_Tokens_advance_48 ?_
  refine ow_iload_n 0 rfl d_Tokens_advance_49 ?_
  refine ow_iadd d_Tokens_advance_50 ?_
  refine ow_iadd d_Tokens_advance_51 ?_
  refine ow_pI 67 d_Tokens_advance_52 rfl rfl (by decide) rfl rfl rfl ?_
  obtain ⟨I21, eI21⟩ : ∃ uu, uu = ow_u I20 25 2 ((I20 25 2) + (r19 + r20)) := ⟨_, rfl⟩
  replace T := T I21 eI21
  rw [← eI21]
  refine ow_iload_n 1 rfl d_Tokens_advance_55 ?_
  refine ow_if_le (tgt := 77) d_Tokens_advance_56 (by decide) (fun c => ?_) (fun c => ?_)
  · replace T := T.1 c
    refine ow_iload_n 0 rfl d_Tokens_advance_77 ?_
    refine ow_if_le (tgt := 98) d_Tokens_advance_78 (by decide) (fun c => ?_) (fun c => ?_)
    · replace T := T.1 c
      refine ow_aload_n 2 rfl d_Tokens_advance_98 ?_
      refine ow_gI 67 d_Tokens_advance_99 rfl rfl (by decide) rfl (Or.inl rfl) ?_
      refine ow_aload_n 2 rfl d_Tokens_advance_102 ?_
      refine ow_gI 66 d_Tokens_advance_103 rfl rfl (by decide) rfl (Or.inl rfl) ?_
      refine ow_icmp_lt (tgt := 117) d_Tokens_advance_106 (by decide) (fun c => ?_) (fun c => ?_)
      · replace T := T.1 c
        refine ow_aload_n 2 rfl d_Tokens_advance_117 ?_
        refine ow_aload_n 2 rfl d_Tokens_advance_118 ?_
        refine ow_gR (a := 1) 65 d_Tokens_advance_119 rfl rfl (by decide) rfl ⟨rfl, hTx⟩ ?_
        refine ow_aload_n 2 rfl d_Tokens_advance_122 ?_
        refine ow_gI 67 d_Tokens_advance_123 rfl rfl (by decide) rfl (Or.inl rfl) ?_
        obtain ⟨cI, T⟩ := T
        refine ow_hbaload d_Tokens_advance_126 (by decide) rfl rfl cI ?_
        refine ow_bipush (v := 59) (by decide) d_Tokens_advance_127 ?_
        refine ow_icmp_ne (tgt := 136) d_Tokens_advance_129 (by decide) (fun c => ?_) (fun c => ?_)
        · replace T := T.1 c
          refine ow_iconst (v := 4) (by decide) d_Tokens_advance_136 ?_
          refine ow_pI 69 d_Tokens_advance_137 rfl rfl (by decide) rfl rfl rfl ?_
          obtain ⟨I22, eI22⟩ : ∃ uu, uu = ow_u I21 25 3 4 := ⟨_, rfl⟩
          replace T := T I22 eI22
          rw [← eI22]
          refine ow_aload_n 2 rfl d_Tokens_advance_140 ?_
          refine ow_dup rfl d_Tokens_advance_141 ?_
          refine ow_gI 67 d_Tokens_advance_142 rfl rfl (by decide) rfl (Or.inl rfl) ?_
          refine ow_iconst (v := 1) (by decide) d_Tokens_advance_145 ?_
          refine ow_iadd d_Tokens_advance_146 ?_
          refine ow_pI 67 d_Tokens_advance_147 rfl rfl (by decide) rfl rfl rfl ?_
          obtain ⟨I23, eI23⟩ : ∃ uu, uu = ow_u I22 25 2 ((I22 25 2) + 1) := ⟨_, rfl⟩
          replace T := T I23 eI23
          rw [← eI23]
          exact ow_vret d_Tokens_advance_150 rfl T
        · replace T := T.2 c
          refine ow_iconst (v := 3) (by decide) d_Tokens_advance_132 ?_
          refine ow_goto (tgt := 137) d_Tokens_advance_133 (by decide) ?_
          refine ow_pI 69 d_Tokens_advance_137 rfl rfl (by decide) rfl rfl rfl ?_
          obtain ⟨I24, eI24⟩ : ∃ uu, uu = ow_u I21 25 3 3 := ⟨_, rfl⟩
          replace T := T I24 eI24
          rw [← eI24]
          refine ow_aload_n 2 rfl d_Tokens_advance_140 ?_
          refine ow_dup rfl d_Tokens_advance_141 ?_
          refine ow_gI 67 d_Tokens_advance_142 rfl rfl (by decide) rfl (Or.inl rfl) ?_
          refine ow_iconst (v := 1) (by decide) d_Tokens_advance_145 ?_
          refine ow_iadd d_Tokens_advance_146 ?_
          refine ow_pI 67 d_Tokens_advance_147 rfl rfl (by decide) rfl rfl rfl ?_
          obtain ⟨I25, eI25⟩ : ∃ uu, uu = ow_u I24 25 2 ((I24 25 2) + 1) := ⟨_, rfl⟩
          replace T := T I25 eI25
          rw [← eI25]
          exact ow_vret d_Tokens_advance_150 rfl T
      · replace T := T.2 c
        refine ow_aload_n 2 rfl d_Tokens_advance_109 ?_
        refine ow_iconst (v := 0) (by decide) d_Tokens_advance_110 ?_
        refine ow_pI 69 d_Tokens_advance_111 rfl rfl (by decide) rfl rfl rfl ?_
        obtain ⟨I26, eI26⟩ : ∃ uu, uu = ow_u I21 25 3 0 := ⟨_, rfl⟩
        replace T := T I26 eI26
        rw [← eI26]
        refine ow_goto (tgt := 150) d_Tokens_advance_114 (by decide) ?_
        exact ow_vret d_Tokens_advance_150 rfl T
    · replace T := T.2 c
      refine ow_aload_n 2 rfl d_Tokens_advance_81 ?_
      refine ow_iload_n 0 rfl d_Tokens_advance_82 ?_
      refine ow_iconst (v := 3) (by decide) d_Tokens_advance_83 ?_
      refine ow_icmp_gt (tgt := 91) d_Tokens_advance_84 (by decide) (fun c => ?_) (fun c => ?_)
      · replace T := T.1 c
        refine ow_iconst (v := 4) (by decide) d_Tokens_advance_91 ?_
        refine ow_pI 69 d_Tokens_advance_92 rfl rfl (by decide) rfl rfl rfl ?_
        obtain ⟨I27, eI27⟩ : ∃ uu, uu = ow_u I21 25 3 4 := ⟨_, rfl⟩
        replace T := T I27 eI27
        rw [← eI27]
        refine ow_goto (tgt := 150) d_Tokens_advance_95 (by decide) ?_
        exact ow_vret d_Tokens_advance_150 rfl T
      · replace T := T.2 c
        refine ow_iconst (v := 2) (by decide) d_Tokens_advance_87 ?_
        refine ow_goto (tgt := 92) d_Tokens_advance_88 (by decide) ?_
        refine ow_pI 69 d_Tokens_advance_92 rfl rfl (by decide) rfl rfl rfl ?_
        obtain ⟨I28, eI28⟩ : ∃ uu, uu = ow_u I21 25 3 2 := ⟨_, rfl⟩
        replace T := T I28 eI28
        rw [← eI28]
        refine ow_goto (tgt := 150) d_Tokens_advance_95 (by decide) ?_
        exact ow_vret d_Tokens_advance_150 rfl T
  · replace T := T.2 c
    refine ow_aload_n 2 rfl d_Tokens_advance_59 ?_
    refine ow_iload_n 1 rfl d_Tokens_advance_60 ?_
    refine ow_bipush (v := 8) (by decide) d_Tokens_advance_61 ?_
    refine ow_icmp_gt (tgt := 70) d_Tokens_advance_63 (by decide) (fun c => ?_) (fun c => ?_)
    · replace T := T.1 c
      refine ow_iconst (v := 4) (by decide) d_Tokens_advance_70 ?_
      refine ow_pI 69 d_Tokens_advance_71 rfl rfl (by decide) rfl rfl rfl ?_
      obtain ⟨I29, eI29⟩ : ∃ uu, uu = ow_u I21 25 3 4 := ⟨_, rfl⟩
      replace T := T I29 eI29
      rw [← eI29]
      refine ow_goto (tgt := 150) d_Tokens_advance_74 (by decide) ?_
      exact ow_vret d_Tokens_advance_150 rfl T
    · replace T := T.2 c
      refine ow_iconst (v := 1) (by decide) d_Tokens_advance_66 ?_
      refine ow_goto (tgt := 71) d_Tokens_advance_67 (by decide) ?_
      refine ow_pI 69 d_Tokens_advance_71 rfl rfl (by decide) rfl rfl rfl ?_
      obtain ⟨I30, eI30⟩ : ∃ uu, uu = ow_u I21 25 3 1 := ⟨_, rfl⟩
      replace T := T I30 eI30
      rw [← eI30]
      refine ow_goto (tgt := 150) d_Tokens_advance_74 (by decide) ?_
      exact ow_vret d_Tokens_advance_150 rfl T
set_option maxRecDepth 4000 in
theorem t_Tokens_isWord_31 {d : Nat} {I : Nat → Nat → Int32} {J : Nat → Nat → Int64} {R : Nat → Nat → Option Nat} {Q : Option Value → ow_H → Prop} {i : Nat} {v2 : Int32} (hi : i < ow_ns) (hR : ow_RF R) (hTx : R 25 0 = some 1) (T : (((I 25 2) ≤ v2 → Q (some (.int 1)) (85, I, J, R)) ∧ (¬ (I 25 2) ≤ v2 → (vp_in v2 900 ∧ (ow_AM M_Str_charAt d [.ref (1000 + i), .int (v2 - (I 25 4))] (85, I, J, R) (fun r h' => ∃ (r2 : Int32) (I2 : Nat → Nat → Int32) (J2 : Nat → Nat → Int64) (R2 : Nat → Nat → Option Nat), r = some (.int r2) ∧ h' = (85, I2, J2, R2) ∧ ow_RF R2 ∧ R2 25 0 = some 1 ∧ (((I 1 v2.toNatClampNeg) = r2 → ow_AW ow_Y0 (ow_Z Q) M_Tokens_isWord (d + 1) 0 0 31 [(0, .ref 25), (1, .ref (1000 + i)), (2, .int (v2 + 1))] [] (85, I2, J2, R2) 0 0) ∧ (¬ (I 1 v2.toNatClampNeg) = r2 → Q (some (.int 0)) (85, I2, J2, R2))))))))) : ow_AW ow_Y0 (ow_Z Q) M_Tokens_isWord (d + 1) 0 0 31 [(0, .ref 25), (1, .ref (1000 + i)), (2, .int v2)] [] (85, I, J, R) 0 0 := by
  refine ow_iload_n 2 rfl d_Tokens_isWord_31 ?_
  refine ow_aload_n 0 rfl d_Tokens_isWord_32 ?_
  refine ow_gI 67 d_Tokens_isWord_33 rfl rfl (by decide) rfl (Or.inl rfl) ?_
  refine ow_icmp_ge (tgt := 66) d_Tokens_isWord_36 (by decide) (fun c => ?_) (fun c => ?_)
  · replace T := T.1 c
    refine ow_iconst (v := 1) (by decide) d_Tokens_isWord_66 ?_
    exact ow_zret d_Tokens_isWord_67 rfl (by decide) T
  · replace T := T.2 c
    refine ow_aload_n 0 rfl d_Tokens_isWord_39 ?_
    refine ow_gR (a := 1) 65 d_Tokens_isWord_40 rfl rfl (by decide) rfl ⟨rfl, hTx⟩ ?_
    refine ow_iload_n 2 rfl d_Tokens_isWord_43 ?_
    obtain ⟨cI, T⟩ := T
    refine ow_hbaload d_Tokens_isWord_44 (by decide) rfl rfl cI ?_
    refine ow_aload_n 1 rfl d_Tokens_isWord_45 ?_
    refine ow_iload_n 2 rfl d_Tokens_isWord_46 ?_
    refine ow_aload_n 0 rfl d_Tokens_isWord_47 ?_
    refine ow_gI 71 d_Tokens_isWord_48 rfl rfl (by decide) rfl (Or.inl rfl) ?_
    refine ow_isub d_Tokens_isWord_51 ?_
    refine ow_callT (i := i) (As := [.int (v2 - (I 25 4))]) (rest := [.int (I 1 v2.toNatClampNeg)]) (d2 := d) d_Tokens_isWord_52 l_Tokens_45 v_Str_charAt hi rfl (Nat.le_of_ble_eq_true rfl) (Nat.le_refl _) ⟨Nat.le_refl _, Nat.le_refl _⟩ (ow_mono T ?_)
    rintro r h' ⟨r2, I2, J2, R2, rfl, rfl, hR2, hTx, T⟩
    show ow_AW ow_Y0 (ow_Z Q) M_Tokens_isWord (d + 1) 0 0 55 [(0, .ref 25), (1, .ref (1000 + i)), (2, .int v2)] [.int r2, .int (I 1 v2.toNatClampNeg)] (85, I2, J2, R2) 0 0
    refine ow_icmp_eq (tgt := 60) d_Tokens_isWord_55 (by decide) (fun c => ?_) (fun c => ?_)
    · replace T := T.1 c
      refine ow_iinc 2 (v := (v2 + 1)) (ls2 := [(2, .int (v2 + 1)), (0, .ref 25), (1, .ref (1000 + i))]) d_Tokens_isWord_60 rfl rfl (by decide) rfl ?_
      refine ow_goto (tgt := 31) d_Tokens_isWord_63 (by decide) ?_
      refine ow_sub [1, 2, 0] rfl ?_
      exact T
    · replace T := T.2 c
      refine ow_iconst (v := 0) (by decide) d_Tokens_isWord_58 ?_
      exact ow_zret d_Tokens_isWord_59 rfl (by decide) T
set_option maxRecDepth 4000 in
theorem t_Tokens_isWord {d : Nat} {I : Nat → Nat → Int32} {J : Nat → Nat → Int64} {R : Nat → Nat → Option Nat} {Q : Option Value → ow_H → Prop} {i : Nat} (hi : i < ow_ns) (hR : ow_RF R) (hTx : R 25 0 = some 1) (T : ((¬ (I 25 3) = 1 → Q (some (.int 0)) (85, I, J, R)) ∧ ((I 25 3) = 1 → (ow_AM M_Str_length d [.ref (1000 + i)] (85, I, J, R) (fun r h' => ∃ (r3 : Int32) (I3 : Nat → Nat → Int32) (J3 : Nat → Nat → Int64) (R3 : Nat → Nat → Option Nat), r = some (.int r3) ∧ h' = (85, I3, J3, R3) ∧ ow_RF R3 ∧ R3 25 0 = some 1 ∧ ((r3 = ((I3 25 2) - (I3 25 4)) → ow_AW ow_Y0 (ow_Z Q) M_Tokens_isWord (d + 1) 0 0 31 [(0, .ref 25), (1, .ref (1000 + i)), (2, .int (I3 25 4))] [] (85, I3, J3, R3) 0 0) ∧ (¬ r3 = ((I3 25 2) - (I3 25 4)) → Q (some (.int 0)) (85, I3, J3, R3)))))))) : ow_AM M_Tokens_isWord (d + 1) [.ref 25, .ref (1000 + i)] (85, I, J, R) Q := by
  refine ow_enter (by decide) (Nat.le_of_ble_eq_true rfl) ?_
  show ow_AW ow_Y0 (ow_Z Q) M_Tokens_isWord (d + 1) 0 0 0 [(0, .ref 25), (1, .ref (1000 + i))] [] (85, I, J, R) 0 0
  refine ow_aload_n 0 rfl d_Tokens_isWord_0 ?_
  refine ow_gI 69 d_Tokens_isWord_1 rfl rfl (by decide) rfl (Or.inl rfl) ?_
  refine ow_iconst (v := 1) (by decide) d_Tokens_isWord_4 ?_
  refine ow_icmp_ne (tgt := 24) d_Tokens_isWord_5 (by decide) (fun c => ?_) (fun c => ?_)
  · replace T := T.1 c
    refine ow_iconst (v := 0) (by decide) d_Tokens_isWord_24 ?_
    exact ow_zret d_Tokens_isWord_25 rfl (by decide) T
  · replace T := T.2 c
    refine ow_aload_n 1 rfl d_Tokens_isWord_8 ?_
    refine ow_callT (i := i) (As := []) (rest := []) (d2 := d) d_Tokens_isWord_9 l_Tokens_39 v_Str_length hi rfl (Nat.le_of_ble_eq_true rfl) (Nat.le_refl _) ⟨Nat.le_refl _, Nat.le_refl _⟩ (ow_mono T ?_)
    rintro r h' ⟨r3, I3, J3, R3, rfl, rfl, hR3, hTx, T⟩
    show ow_AW ow_Y0 (ow_Z Q) M_Tokens_isWord (d + 1) 0 0 12 [(0, .ref 25), (1, .ref (1000 + i))] [.int r3] (85, I3, J3, R3) 0 0
    refine ow_aload_n 0 rfl d_Tokens_isWord_12 ?_
    refine ow_gI 67 d_Tokens_isWord_13 rfl rfl (by decide) rfl (Or.inl rfl) ?_
    refine ow_aload_n 0 rfl d_Tokens_isWord_16 ?_
    refine ow_gI 71 d_Tokens_isWord_17 rfl rfl (by decide) rfl (Or.inl rfl) ?_
    refine ow_isub d_Tokens_isWord_20 ?_
    refine ow_icmp_eq (tgt := 26) d_Tokens_isWord_21 (by decide) (fun c => ?_) (fun c => ?_)
    · replace T := T.1 c
      refine ow_aload_n 0 rfl d_Tokens_isWord_26 ?_
      refine ow_gI 71 d_Tokens_isWord_27 rfl rfl (by decide) rfl (Or.inl rfl) ?_
      refine ow_istore_n (ls2 := [(2, .int (I3 25 4)), (0, .ref 25), (1, .ref (1000 + i))]) d_Tokens_isWord_30 (by decide) rfl ?_
      refine ow_sub [1, 2, 0] rfl ?_
      exact T
    · replace T := T.2 c
      refine ow_iconst (v := 0) (by decide) d_Tokens_isWord_24 ?_
      exact ow_zret d_Tokens_isWord_25 rfl (by decide) T
set_option maxRecDepth 4000 in
theorem t_Tokens_wordCode_7 {d : Nat} {I : Nat → Nat → Int32} {J : Nat → Nat → Int64} {R : Nat → Nat → Option Nat} {Q : Option Value → ow_H → Prop}  {v1 : Int64} {v3 : Int32}  (hR : ow_RF R) (hTx : R 25 0 = some 1) (T : (((I 25 2) ≤ v3 → Q (some (.long v1)) (85, I, J, R)) ∧ (¬ (I 25 2) ≤ v3 → (vp_in v3 900 ∧ ow_AW ow_Y0 (ow_Z Q) M_Tokens_wordCode (d + 1) 0 0 7 [(0, .ref 25), (1, .long ((v1 <<< (Int32.toInt64 5 &&& 63)) + (Int32.toInt64 (((I 1 v3.toNatClampNeg) - 97) + 1)))), (3, .int (v3 + 1))] [] (85, I, J, R) 0 0)))) : ow_AW ow_Y0 (ow_Z Q) M_Tokens_wordCode (d + 1) 0 0 7 [(0, .ref 25), (1, .long v1), (3, .int v3)] [] (85, I, J, R) 0 0 := by
  refine ow_iload_n 2 rfl d_Tokens_wordCode_7 ?_
  refine ow_aload_n 0 rfl d_Tokens_wordCode_8 ?_
  refine ow_gI 67 d_Tokens_wordCode_9 rfl rfl (by decide) rfl (Or.inl rfl) ?_
  refine ow_icmp_ge (tgt := 38) d_Tokens_wordCode_12 (by decide) (fun c => ?_) (fun c => ?_)
  · replace T := T.1 c
    refine ow_lload_n 1 rfl d_Tokens_wordCode_38 ?_
    exact ow_lret d_Tokens_wordCode_39 rfl T
  · replace T := T.2 c
    refine ow_lload_n 1 rfl d_Tokens_wordCode_15 ?_
    refine ow_iconst (v := 5) (by decide) d_Tokens_wordCode_16 ?_
    refine ow_lshl d_Tokens_wordCode_17 ?_
    refine ow_aload_n 0 rfl d_Tokens_wordCode_18 ?_
    refine ow_gR (a := 1) 65 d_Tokens_wordCode_19 rfl rfl (by decide) rfl ⟨rfl, hTx⟩ ?_
    refine ow_iload_n 2 rfl d_Tokens_wordCode_22 ?_
    obtain ⟨cI, T⟩ := T
    refine ow_hbaload d_Tokens_wordCode_23 (by decide) rfl rfl cI ?_
    refine ow_bipush (v := 97) (by decide) d_Tokens_wordCode_24 ?_
    refine ow_isub d_Tokens_wordCode_26 ?_
    refine ow_iconst (v := 1) (by decide) d_Tokens_wordCode_27 ?_
    refine ow_iadd d_Tokens_wordCode_28 ?_
    refine ow_i2l d_Tokens_wordCode_29 ?_
    refine ow_ladd d_Tokens_wordCode_30 ?_
    refine ow_lstore_n (ls2 := [(1, .long ((v1 <<< (Int32.toInt64 5 &&& 63)) + (Int32.toInt64 (((I 1 v3.toNatClampNeg) - 97) + 1)))), (0, .ref 25), (3, .int v3)]) d_Tokens_wordCode_31 (by decide) rfl ?_
    refine ow_iinc 2 (v := (v3 + 1)) (ls2 := [(3, .int (v3 + 1)), (1, .long ((v1 <<< (Int32.toInt64 5 &&& 63)) + (Int32.toInt64 (((I 1 v3.toNatClampNeg) - 97) + 1)))), (0, .ref 25)]) d_Tokens_wordCode_32 rfl rfl (by decide) rfl ?_
    refine ow_goto (tgt := 7) d_Tokens_wordCode_35 (by decide) ?_
    refine ow_sub [2, 1, 0] rfl ?_
    exact T
set_option maxRecDepth 4000 in
theorem t_Tokens_wordCode {d : Nat} {I : Nat → Nat → Int32} {J : Nat → Nat → Int64} {R : Nat → Nat → Option Nat} {Q : Option Value → ow_H → Prop}   (hR : ow_RF R) (hTx : R 25 0 = some 1) (T : ow_AW ow_Y0 (ow_Z Q) M_Tokens_wordCode (d + 1) 0 0 7 [(0, .ref 25), (1, .long 0), (3, .int (I 25 4))] [] (85, I, J, R) 0 0) : ow_AM M_Tokens_wordCode (d + 1) [.ref 25] (85, I, J, R) Q := by
  refine ow_enter (by decide) (Nat.le_of_ble_eq_true rfl) ?_
  show ow_AW ow_Y0 (ow_Z Q) M_Tokens_wordCode (d + 1) 0 0 0 [(0, .ref 25)] [] (85, I, J, R) 0 0
  refine ow_lconst (v := 0) (by decide) d_Tokens_wordCode_0 ?_
  refine ow_lstore_n (ls2 := [(1, .long 0), (0, .ref 25)]) d_Tokens_wordCode_1 (by decide) rfl ?_
  refine ow_aload_n 1 rfl d_Tokens_wordCode_2 ?_
  refine ow_gI 71 d_Tokens_wordCode_3 rfl rfl (by decide) rfl (Or.inl rfl) ?_
  refine ow_istore_n (ls2 := [(3, .int (I 25 4)), (1, .long 0), (0, .ref 25)]) d_Tokens_wordCode_6 (by decide) rfl ?_
  refine ow_sub [2, 1, 0] rfl ?_
  exact T
set_option maxRecDepth 4000 in
theorem t_Tokens_wholeValue_7 {d : Nat} {I : Nat → Nat → Int32} {J : Nat → Nat → Int64} {R : Nat → Nat → Option Nat} {Q : Option Value → ow_H → Prop}  {v1 : Int32} {v2 : Int32}  (hR : ow_RF R) (hTx : R 25 0 = some 1) (T : (((I 25 2) ≤ v2 → Q (some (.int v1)) (85, I, J, R)) ∧ (¬ (I 25 2) ≤ v2 → (vp_in v2 900 ∧ ow_AW ow_Y0 (ow_Z Q) M_Tokens_wholeValue (d + 1) 0 0 7 [(0, .ref 25), (1, .int ((v1 * 10) + ((I 1 v2.toNatClampNeg) - 48))), (2, .int (v2 + 1))] [] (85, I, J, R) 0 0)))) : ow_AW ow_Y0 (ow_Z Q) M_Tokens_wholeValue (d + 1) 0 0 7 [(0, .ref 25), (1, .int v1), (2, .int v2)] [] (85, I, J, R) 0 0 := by
  refine ow_iload_n 2 rfl d_Tokens_wholeValue_7 ?_
  refine ow_aload_n 0 rfl d_Tokens_wholeValue_8 ?_
  refine ow_gI 67 d_Tokens_wholeValue_9 rfl rfl (by decide) rfl (Or.inl rfl) ?_
  refine ow_icmp_ge (tgt := 36) d_Tokens_wholeValue_12 (by decide) (fun c => ?_) (fun c => ?_)
  · replace T := T.1 c
    refine ow_iload_n 1 rfl d_Tokens_wholeValue_36 ?_
    exact ow_iret d_Tokens_wholeValue_37 rfl T
  · replace T := T.2 c
    refine ow_iload_n 1 rfl d_Tokens_wholeValue_15 ?_
    refine ow_bipush (v := 10) (by decide) d_Tokens_wholeValue_16 ?_
    refine ow_imul d_Tokens_wholeValue_18 ?_
    refine ow_aload_n 0 rfl d_Tokens_wholeValue_19 ?_
    refine ow_gR (a := 1) 65 d_Tokens_wholeValue_20 rfl rfl (by decide) rfl ⟨rfl, hTx⟩ ?_
    refine ow_iload_n 2 rfl d_Tokens_wholeValue_23 ?_
    obtain ⟨cI, T⟩ := T
    refine ow_hbaload d_Tokens_wholeValue_24 (by decide) rfl rfl cI ?_
    refine ow_bipush (v := 48) (by decide) d_Tokens_wholeValue_25 ?_
    refine ow_isub d_Tokens_wholeValue_27 ?_
    refine ow_iadd d_Tokens_wholeValue_28 ?_
    refine ow_istore_n (ls2 := [(1, .int ((v1 * 10) + ((I 1 v2.toNatClampNeg) - 48))), (0, .ref 25), (2, .int v2)]) d_Tokens_wholeValue_29 (by decide) rfl ?_
    refine ow_iinc 2 (v := (v2 + 1)) (ls2 := [(2, .int (v2 + 1)), (1, .int ((v1 * 10) + ((I 1 v2.toNatClampNeg) - 48))), (0, .ref 25)]) d_Tokens_wholeValue_30 rfl rfl (by decide) rfl ?_
    refine ow_goto (tgt := 7) d_Tokens_wholeValue_33 (by decide) ?_
    refine ow_sub [2, 1, 0] rfl ?_
    exact T
set_option maxRecDepth 4000 in
theorem t_Tokens_wholeValue {d : Nat} {I : Nat → Nat → Int32} {J : Nat → Nat → Int64} {R : Nat → Nat → Option Nat} {Q : Option Value → ow_H → Prop}   (hR : ow_RF R) (hTx : R 25 0 = some 1) (T : ow_AW ow_Y0 (ow_Z Q) M_Tokens_wholeValue (d + 1) 0 0 7 [(0, .ref 25), (1, .int 0), (2, .int (I 25 4))] [] (85, I, J, R) 0 0) : ow_AM M_Tokens_wholeValue (d + 1) [.ref 25] (85, I, J, R) Q := by
  refine ow_enter (by decide) (Nat.le_of_ble_eq_true rfl) ?_
  show ow_AW ow_Y0 (ow_Z Q) M_Tokens_wholeValue (d + 1) 0 0 0 [(0, .ref 25)] [] (85, I, J, R) 0 0
  refine ow_iconst (v := 0) (by decide) d_Tokens_wholeValue_0 ?_
  refine ow_istore_n (ls2 := [(1, .int 0), (0, .ref 25)]) d_Tokens_wholeValue_1 (by decide) rfl ?_
  refine ow_aload_n 1 rfl d_Tokens_wholeValue_2 ?_
  refine ow_gI 71 d_Tokens_wholeValue_3 rfl rfl (by decide) rfl (Or.inl rfl) ?_
  refine ow_istore_n (ls2 := [(2, .int (I 25 4)), (1, .int 0), (0, .ref 25)]) d_Tokens_wholeValue_6 (by decide) rfl ?_
  refine ow_sub [2, 1, 0] rfl ?_
  exact T
set_option maxRecDepth 4000 in
theorem t_Tokens_countRun_5 {d : Nat} {I : Nat → Nat → Int32} {J : Nat → Nat → Int64} {R : Nat → Nat → Option Nat} {Q : Option Value → ow_H → Prop}  {v1 : Int32} {v2 : Int32} {v3 : Int32}  (hR : ow_RF R) (hTx : R 25 0 = some 1) (T : (((I 25 1) ≤ v3 → Q (some (.int (v3 - (I 25 2)))) (85, I, J, R)) ∧ (¬ (I 25 1) ≤ v3 → (vp_in v3 900 ∧ (((I 1 v3.toNatClampNeg) < v1 → Q (some (.int (v3 - (I 25 2)))) (85, I, J, R)) ∧ (¬ (I 1 v3.toNatClampNeg) < v1 → (vp_in v3 900 ∧ ((v2 < (I 1 v3.toNatClampNeg) → Q (some (.int (v3 - (I 25 2)))) (85, I, J, R)) ∧ (¬ v2 < (I 1 v3.toNatClampNeg) → ow_AW ow_Y0 (ow_Z Q) M_Tokens_countRun (d + 1) 0 0 5 [(0, .ref 25), (1, .int v1), (2, .int v2), (3, .int (v3 + 1))] [] (85, I, J, R) 0 0))))))))) : ow_AW ow_Y0 (ow_Z Q) M_Tokens_countRun (d + 1) 0 0 5 [(0, .ref 25), (1, .int v1), (2, .int v2), (3, .int v3)] [] (85, I, J, R) 0 0 := by
  refine ow_iload_n 3 rfl d_Tokens_countRun_5 ?_
  refine ow_aload_n 0 rfl d_Tokens_countRun_6 ?_
  refine ow_gI 66 d_Tokens_countRun_7 rfl rfl (by decide) rfl (Or.inl rfl) ?_
  refine ow_icmp_ge (tgt := 39) d_Tokens_countRun_10 (by decide) (fun c => ?_) (fun c => ?_)
  · replace T := T.1 c
    refine ow_iload_n 3 rfl d_Tokens_countRun_39 ?_
    refine ow_aload_n 0 rfl d_Tokens_countRun_40 ?_
    refine ow_gI 67 d_Tokens_countRun_41 rfl rfl (by decide) rfl (Or.inl rfl) ?_
    refine ow_isub d_Tokens_countRun_44 ?_
    exact ow_iret d_Tokens_countRun_45 rfl T
  · replace T := T.2 c
    refine ow_aload_n 0 rfl d_Tokens_countRun_13 ?_
    refine ow_gR (a := 1) 65 d_Tokens_countRun_14 rfl rfl (by decide) rfl ⟨rfl, hTx⟩ ?_
    refine ow_iload_n 3 rfl d_Tokens_countRun_17 ?_
    obtain ⟨cI, T⟩ := T
    refine ow_hbaload d_Tokens_countRun_18 (by decide) rfl rfl cI ?_
    refine ow_iload_n 1 rfl d_Tokens_countRun_19 ?_
    refine ow_icmp_lt (tgt := 39) d_Tokens_countRun_20 (by decide) (fun c => ?_) (fun c => ?_)
    · replace T := T.1 c
      refine ow_iload_n 3 rfl d_Tokens_countRun_39 ?_
      refine ow_aload_n 0 rfl d_Tokens_countRun_40 ?_
      refine ow_gI 67 d_Tokens_countRun_41 rfl rfl (by decide) rfl (Or.inl rfl) ?_
      refine ow_isub d_Tokens_countRun_44 ?_
      exact ow_iret d_Tokens_countRun_45 rfl T
    · replace T := T.2 c
      refine ow_aload_n 0 rfl d_Tokens_countRun_23 ?_
      refine ow_gR (a := 1) 65 d_Tokens_countRun_24 rfl rfl (by decide) rfl ⟨rfl, hTx⟩ ?_
      refine ow_iload_n 3 rfl d_Tokens_countRun_27 ?_
      obtain ⟨cI, T⟩ := T
      refine ow_hbaload d_Tokens_countRun_28 (by decide) rfl rfl cI ?_
      refine ow_iload_n 2 rfl d_Tokens_countRun_29 ?_
      refine ow_icmp_gt (tgt := 39) d_Tokens_countRun_30 (by decide) (fun c => ?_) (fun c => ?_)
      · replace T := T.1 c
        refine ow_iload_n 3 rfl d_Tokens_countRun_39 ?_
        refine ow_aload_n 0 rfl d_Tokens_countRun_40 ?_
        refine ow_gI 67 d_Tokens_countRun_41 rfl rfl (by decide) rfl (Or.inl rfl) ?_
        refine ow_isub d_Tokens_countRun_44 ?_
        exact ow_iret d_Tokens_countRun_45 rfl T
      · replace T := T.2 c
        refine ow_iinc 3 (v := (v3 + 1)) (ls2 := [(3, .int (v3 + 1)), (0, .ref 25), (1, .int v1), (2, .int v2)]) d_Tokens_countRun_33 rfl rfl (by decide) rfl ?_
        refine ow_goto (tgt := 5) d_Tokens_countRun_36 (by decide) ?_
        refine ow_sub [1, 2, 3, 0] rfl ?_
        exact T
set_option maxRecDepth 4000 in
theorem t_Tokens_countRun {d : Nat} {I : Nat → Nat → Int32} {J : Nat → Nat → Int64} {R : Nat → Nat → Option Nat} {Q : Option Value → ow_H → Prop} {p1 : Int32} {p2 : Int32}  (hR : ow_RF R) (hTx : R 25 0 = some 1) (T : ow_AW ow_Y0 (ow_Z Q) M_Tokens_countRun (d + 1) 0 0 5 [(0, .ref 25), (1, .int p1), (2, .int p2), (3, .int (I 25 2))] [] (85, I, J, R) 0 0) : ow_AM M_Tokens_countRun (d + 1) [.ref 25, .int p1, .int p2] (85, I, J, R) Q := by
  refine ow_enter (by decide) (Nat.le_of_ble_eq_true rfl) ?_
  show ow_AW ow_Y0 (ow_Z Q) M_Tokens_countRun (d + 1) 0 0 0 [(0, .ref 25), (1, .int p1), (2, .int p2)] [] (85, I, J, R) 0 0
  refine ow_aload_n 0 rfl d_Tokens_countRun_0 ?_
  refine ow_gI 67 d_Tokens_countRun_1 rfl rfl (by decide) rfl (Or.inl rfl) ?_
  refine ow_istore_n (ls2 := [(3, .int (I 25 2)), (0, .ref 25), (1, .int p1), (2, .int p2)]) d_Tokens_countRun_4 (by decide) rfl ?_
  refine ow_sub [1, 2, 3, 0] rfl ?_
  exact T
