/-! Own rows, by program: Mo_blow Mo_blowAll Mo_odds Mo_lostOdds Mo_blownOf Mo_blown Mo_yeses Mo_note Mo_ruins Mo_year Mo_mend Mo_hire Mo_send Mo_undo -/
theorem d_Mo_blow_0 : decode M_Mo_blow.2.1 0 = .ok (.iload_n 3, 1) := by decide +kernel
theorem d_Mo_blow_1 : decode M_Mo_blow.2.1 1 = .ok (.iload_n 1, 1) := by decide +kernel
theorem d_Mo_blow_2 : decode M_Mo_blow.2.1 2 = .ok (.invokestatic 231, 3) := by decide +kernel
theorem d_Mo_blow_5 : decode M_Mo_blow.2.1 5 = .ok (.ifCond .eq 8, 3) := by decide +kernel
theorem d_Mo_blow_8 : decode M_Mo_blow.2.1 8 = .ok (.bipush (-2), 2) := by decide +kernel
theorem d_Mo_blow_10 : decode M_Mo_blow.2.1 10 = .ok (.goto 13, 3) := by decide +kernel
theorem d_Mo_blow_13 : decode M_Mo_blow.2.1 13 = .ok (.aload_n 0, 1) := by decide +kernel
theorem d_Mo_blow_14 : decode M_Mo_blow.2.1 14 = .ok (.aload_n 0, 1) := by decide +kernel
theorem d_Mo_blow_15 : decode M_Mo_blow.2.1 15 = .ok (.getfield 32, 3) := by decide +kernel
theorem d_Mo_blow_18 : decode M_Mo_blow.2.1 18 = .ok (.iload_n 1, 1) := by decide +kernel
theorem d_Mo_blow_19 : decode M_Mo_blow.2.1 19 = .ok (.iload_n 2, 1) := by decide +kernel
theorem d_Mo_blow_20 : decode M_Mo_blow.2.1 20 = .ok (.invokevirtual 257, 3) := by decide +kernel
theorem d_Mo_blow_23 : decode M_Mo_blow.2.1 23 = .ok (.istore 6, 2) := by decide +kernel
theorem d_Mo_blow_25 : decode M_Mo_blow.2.1 25 = .ok (.iload 6, 2) := by decide +kernel
theorem d_Mo_blow_27 : decode M_Mo_blow.2.1 27 = .ok (.ifCond .ge 15, 3) := by decide +kernel
theorem d_Mo_blow_30 : decode M_Mo_blow.2.1 30 = .ok (.aload_n 0, 1) := by decide +kernel
theorem d_Mo_blow_31 : decode M_Mo_blow.2.1 31 = .ok (.dup, 1) := by decide +kernel
theorem d_Mo_blow_32 : decode M_Mo_blow.2.1 32 = .ok (.getfield 384, 3) := by decide +kernel
theorem d_Mo_blow_35 : decode M_Mo_blow.2.1 35 = .ok (.lload 4, 2) := by decide +kernel
theorem d_Mo_blow_37 : decode M_Mo_blow.2.1 37 = .ok (.ladd, 1) := by decide +kernel
theorem d_Mo_blow_38 : decode M_Mo_blow.2.1 38 = .ok (.putfield 384, 3) := by decide +kernel
theorem d_Mo_blow_41 : decode M_Mo_blow.2.1 41 = .ok (.return_, 1) := by decide +kernel
theorem d_Mo_blow_42 : decode M_Mo_blow.2.1 42 = .ok (.iconst 0, 1) := by decide +kernel
theorem d_Mo_blow_43 : decode M_Mo_blow.2.1 43 = .ok (.istore 7, 2) := by decide +kernel
theorem d_Mo_blow_45 : decode M_Mo_blow.2.1 45 = .ok (.iload 7, 2) := by decide +kernel
theorem d_Mo_blow_47 : decode M_Mo_blow.2.1 47 = .ok (.iconst 2, 1) := by decide +kernel
theorem d_Mo_blow_48 : decode M_Mo_blow.2.1 48 = .ok (.if_icmp .ge 140, 3) := by decide +kernel
theorem d_Mo_blow_51 : decode M_Mo_blow.2.1 51 = .ok (.lload 4, 2) := by decide +kernel
theorem d_Mo_blow_53 : decode M_Mo_blow.2.1 53 = .ok (.ldc2_w 388, 3) := by decide +kernel
theorem d_Mo_blow_56 : decode M_Mo_blow.2.1 56 = .ok (.ldiv, 1) := by decide +kernel
theorem d_Mo_blow_57 : decode M_Mo_blow.2.1 57 = .ok (.iload 7, 2) := by decide +kernel
theorem d_Mo_blow_59 : decode M_Mo_blow.2.1 59 = .ok (.iconst 1, 1) := by decide +kernel
theorem d_Mo_blow_60 : decode M_Mo_blow.2.1 60 = .ok (.if_icmp .ne 12, 3) := by decide +kernel
theorem d_Mo_blow_63 : decode M_Mo_blow.2.1 63 = .ok (.aload_n 0, 1) := by decide +kernel
theorem d_Mo_blow_64 : decode M_Mo_blow.2.1 64 = .ok (.getfield 20, 3) := by decide +kernel
theorem d_Mo_blow_67 : decode M_Mo_blow.2.1 67 = .ok (.iconst 0, 1) := by decide +kernel
theorem d_Mo_blow_68 : decode M_Mo_blow.2.1 68 = .ok (.iaload, 1) := by decide +kernel
theorem d_Mo_blow_69 : decode M_Mo_blow.2.1 69 = .ok (.goto 12, 3) := by decide +kernel
theorem d_Mo_blow_72 : decode M_Mo_blow.2.1 72 = .ok (.bipush 100, 2) := by decide +kernel
theorem d_Mo_blow_74 : decode M_Mo_blow.2.1 74 = .ok (.aload_n 0, 1) := by decide +kernel
theorem d_Mo_blow_75 : decode M_Mo_blow.2.1 75 = .ok (.getfield 20, 3) := by decide +kernel
theorem d_Mo_blow_78 : decode M_Mo_blow.2.1 78 = .ok (.iconst 0, 1) := by decide +kernel
theorem d_Mo_blow_79 : decode M_Mo_blow.2.1 79 = .ok (.iaload, 1) := by decide +kernel
theorem d_Mo_blow_80 : decode M_Mo_blow.2.1 80 = .ok (.isub, 1) := by decide +kernel
theorem d_Mo_blow_81 : decode M_Mo_blow.2.1 81 = .ok (.i2l, 1) := by decide +kernel
theorem d_Mo_blow_82 : decode M_Mo_blow.2.1 82 = .ok (.lmul, 1) := by decide +kernel
theorem d_Mo_blow_83 : decode M_Mo_blow.2.1 83 = .ok (.lstore 8, 2) := by decide +kernel
theorem d_Mo_blow_85 : decode M_Mo_blow.2.1 85 = .ok (.iload 7, 2) := by decide +kernel
theorem d_Mo_blow_87 : decode M_Mo_blow.2.1 87 = .ok (.iconst 1, 1) := by decide +kernel
theorem d_Mo_blow_88 : decode M_Mo_blow.2.1 88 = .ok (.if_icmp .ne 10, 3) := by decide +kernel
theorem d_Mo_blow_91 : decode M_Mo_blow.2.1 91 = .ok (.iconst 1, 1) := by decide +kernel
theorem d_Mo_blow_92 : decode M_Mo_blow.2.1 92 = .ok (.iload 6, 2) := by decide +kernel
theorem d_Mo_blow_94 : decode M_Mo_blow.2.1 94 = .ok (.isub, 1) := by decide +kernel
theorem d_Mo_blow_95 : decode M_Mo_blow.2.1 95 = .ok (.goto 5, 3) := by decide +kernel
theorem d_Mo_blow_98 : decode M_Mo_blow.2.1 98 = .ok (.iload 6, 2) := by decide +kernel
theorem d_Mo_blow_100 : decode M_Mo_blow.2.1 100 = .ok (.istore 10, 2) := by decide +kernel
theorem d_Mo_blow_102 : decode M_Mo_blow.2.1 102 = .ok (.lload 8, 2) := by decide +kernel
theorem d_Mo_blow_104 : decode M_Mo_blow.2.1 104 = .ok (.lconst 0, 1) := by decide +kernel
theorem d_Mo_blow_105 : decode M_Mo_blow.2.1 105 = .ok (.lcmp, 1) := by decide +kernel
theorem d_Mo_blow_106 : decode M_Mo_blow.2.1 106 = .ok (.ifCond .ne 6, 3) := by decide +kernel
theorem d_Mo_blow_109 : decode M_Mo_blow.2.1 109 = .ok (.goto 73, 3) := by decide +kernel
theorem d_Mo_blow_112 : decode M_Mo_blow.2.1 112 = .ok (.aload_n 0, 1) := by decide +kernel
theorem d_Mo_blow_113 : decode M_Mo_blow.2.1 113 = .ok (.getfield 32, 3) := by decide +kernel
theorem d_Mo_blow_116 : decode M_Mo_blow.2.1 116 = .ok (.bipush 6, 2) := by decide +kernel
theorem d_Mo_blow_118 : decode M_Mo_blow.2.1 118 = .ok (.iload_n 1, 1) := by decide +kernel
theorem d_Mo_blow_119 : decode M_Mo_blow.2.1 119 = .ok (.iadd, 1) := by decide +kernel
theorem d_Mo_blow_120 : decode M_Mo_blow.2.1 120 = .ok (.iaload, 1) := by decide +kernel
theorem d_Mo_blow_121 : decode M_Mo_blow.2.1 121 = .ok (.ifCond .le 30, 3) := by decide +kernel
theorem d_Mo_blow_124 : decode M_Mo_blow.2.1 124 = .ok (.aload_n 0, 1) := by decide +kernel
theorem d_Mo_blow_125 : decode M_Mo_blow.2.1 125 = .ok (.aload_n 0, 1) := by decide +kernel
theorem d_Mo_blow_126 : decode M_Mo_blow.2.1 126 = .ok (.getfield 32, 3) := by decide +kernel
theorem d_Mo_blow_129 : decode M_Mo_blow.2.1 129 = .ok (.bipush 6, 2) := by decide +kernel
theorem d_Mo_blow_131 : decode M_Mo_blow.2.1 131 = .ok (.iload_n 1, 1) := by decide +kernel
theorem d_Mo_blow_132 : decode M_Mo_blow.2.1 132 = .ok (.iadd, 1) := by decide +kernel
theorem d_Mo_blow_133 : decode M_Mo_blow.2.1 133 = .ok (.iaload, 1) := by decide +kernel
theorem d_Mo_blow_134 : decode M_Mo_blow.2.1 134 = .ok (.iconst 1, 1) := by decide +kernel
theorem d_Mo_blow_135 : decode M_Mo_blow.2.1 135 = .ok (.isub, 1) := by decide +kernel
theorem d_Mo_blow_136 : decode M_Mo_blow.2.1 136 = .ok (.iload 10, 2) := by decide +kernel
theorem d_Mo_blow_138 : decode M_Mo_blow.2.1 138 = .ok (.iload_n 3, 1) := by decide +kernel
theorem d_Mo_blow_139 : decode M_Mo_blow.2.1 139 = .ok (.iconst 1, 1) := by decide +kernel
theorem d_Mo_blow_140 : decode M_Mo_blow.2.1 140 = .ok (.iload_n 1, 1) := by decide +kernel
theorem d_Mo_blow_141 : decode M_Mo_blow.2.1 141 = .ok (.ishl, 1) := by decide +kernel
theorem d_Mo_blow_142 : decode M_Mo_blow.2.1 142 = .ok (.ior, 1) := by decide +kernel
theorem d_Mo_blow_143 : decode M_Mo_blow.2.1 143 = .ok (.lload 8, 2) := by decide +kernel
theorem d_Mo_blow_145 : decode M_Mo_blow.2.1 145 = .ok (.invokevirtual 390, 3) := by decide +kernel
theorem d_Mo_blow_148 : decode M_Mo_blow.2.1 148 = .ok (.goto 34, 3) := by decide +kernel
theorem d_Mo_blow_151 : decode M_Mo_blow.2.1 151 = .ok (.iload 10, 2) := by decide +kernel
theorem d_Mo_blow_153 : decode M_Mo_blow.2.1 153 = .ok (.iconst 1, 1) := by decide +kernel
theorem d_Mo_blow_154 : decode M_Mo_blow.2.1 154 = .ok (.if_icmp .ne 17, 3) := by decide +kernel
theorem d_Mo_blow_157 : decode M_Mo_blow.2.1 157 = .ok (.aload_n 0, 1) := by decide +kernel
theorem d_Mo_blow_158 : decode M_Mo_blow.2.1 158 = .ok (.dup, 1) := by decide +kernel
theorem d_Mo_blow_159 : decode M_Mo_blow.2.1 159 = .ok (.getfield 394, 3) := by decide +kernel
theorem d_Mo_blow_162 : decode M_Mo_blow.2.1 162 = .ok (.lload 8, 2) := by decide +kernel
theorem d_Mo_blow_164 : decode M_Mo_blow.2.1 164 = .ok (.ladd, 1) := by decide +kernel
theorem d_Mo_blow_165 : decode M_Mo_blow.2.1 165 = .ok (.putfield 394, 3) := by decide +kernel
theorem d_Mo_blow_168 : decode M_Mo_blow.2.1 168 = .ok (.goto 14, 3) := by decide +kernel
theorem d_Mo_blow_171 : decode M_Mo_blow.2.1 171 = .ok (.aload_n 0, 1) := by decide +kernel
theorem d_Mo_blow_172 : decode M_Mo_blow.2.1 172 = .ok (.dup, 1) := by decide +kernel
theorem d_Mo_blow_173 : decode M_Mo_blow.2.1 173 = .ok (.getfield 397, 3) := by decide +kernel
theorem d_Mo_blow_176 : decode M_Mo_blow.2.1 176 = .ok (.lload 8, 2) := by decide +kernel
theorem d_Mo_blow_178 : decode M_Mo_blow.2.1 178 = .ok (.ladd, 1) := by decide +kernel
theorem d_Mo_blow_179 : decode M_Mo_blow.2.1 179 = .ok (.putfield 397, 3) := by decide +kernel
theorem d_Mo_blow_182 : decode M_Mo_blow.2.1 182 = .ok (.iinc 7 1, 3) := by decide +kernel
theorem d_Mo_blow_185 : decode M_Mo_blow.2.1 185 = .ok (.goto (-140), 3) := by decide +kernel
theorem d_Mo_blow_188 : decode M_Mo_blow.2.1 188 = .ok (.return_, 1) := by decide +kernel
theorem d_Mo_blowAll_0 : decode M_Mo_blowAll.2.1 0 = .ok (.aload_n 0, 1) := by decide +kernel
theorem d_Mo_blowAll_1 : decode M_Mo_blowAll.2.1 1 = .ok (.invokevirtual 281, 3) := by decide +kernel
theorem d_Mo_blowAll_4 : decode M_Mo_blowAll.2.1 4 = .ok (.aload_n 0, 1) := by decide +kernel
theorem d_Mo_blowAll_5 : decode M_Mo_blowAll.2.1 5 = .ok (.lconst 0, 1) := by decide +kernel
theorem d_Mo_blowAll_6 : decode M_Mo_blowAll.2.1 6 = .ok (.putfield 394, 3) := by decide +kernel
theorem d_Mo_blowAll_9 : decode M_Mo_blowAll.2.1 9 = .ok (.aload_n 0, 1) := by decide +kernel
theorem d_Mo_blowAll_10 : decode M_Mo_blowAll.2.1 10 = .ok (.lconst 0, 1) := by decide +kernel
theorem d_Mo_blowAll_11 : decode M_Mo_blowAll.2.1 11 = .ok (.putfield 397, 3) := by decide +kernel
theorem d_Mo_blowAll_14 : decode M_Mo_blowAll.2.1 14 = .ok (.aload_n 0, 1) := by decide +kernel
theorem d_Mo_blowAll_15 : decode M_Mo_blowAll.2.1 15 = .ok (.lconst 0, 1) := by decide +kernel
theorem d_Mo_blowAll_16 : decode M_Mo_blowAll.2.1 16 = .ok (.putfield 384, 3) := by decide +kernel
theorem d_Mo_blowAll_19 : decode M_Mo_blowAll.2.1 19 = .ok (.aload_n 0, 1) := by decide +kernel
theorem d_Mo_blowAll_20 : decode M_Mo_blowAll.2.1 20 = .ok (.iload_n 1, 1) := by decide +kernel
theorem d_Mo_blowAll_21 : decode M_Mo_blowAll.2.1 21 = .ok (.iload_n 2, 1) := by decide +kernel
theorem d_Mo_blowAll_22 : decode M_Mo_blowAll.2.1 22 = .ok (.ifCond .eq 7, 3) := by decide +kernel
theorem d_Mo_blowAll_25 : decode M_Mo_blowAll.2.1 25 = .ok (.iconst 1, 1) := by decide +kernel
theorem d_Mo_blowAll_26 : decode M_Mo_blowAll.2.1 26 = .ok (.goto 4, 3) := by decide +kernel
theorem d_Mo_blowAll_29 : decode M_Mo_blowAll.2.1 29 = .ok (.iconst 0, 1) := by decide +kernel
theorem d_Mo_blowAll_30 : decode M_Mo_blowAll.2.1 30 = .ok (.iconst 0, 1) := by decide +kernel
theorem d_Mo_blowAll_31 : decode M_Mo_blowAll.2.1 31 = .ok (.ldc2_w 400, 3) := by decide +kernel
theorem d_Mo_blowAll_34 : decode M_Mo_blowAll.2.1 34 = .ok (.invokevirtual 390, 3) := by decide +kernel
theorem d_Mo_blowAll_37 : decode M_Mo_blowAll.2.1 37 = .ok (.return_, 1) := by decide +kernel
theorem d_Mo_odds_0 : decode M_Mo_odds.2.1 0 = .ok (.aload_n 0, 1) := by decide +kernel
theorem d_Mo_odds_1 : decode M_Mo_odds.2.1 1 = .ok (.invokevirtual 154, 3) := by decide +kernel
theorem d_Mo_odds_4 : decode M_Mo_odds.2.1 4 = .ok (.aload_n 0, 1) := by decide +kernel
theorem d_Mo_odds_5 : decode M_Mo_odds.2.1 5 = .ok (.iload_n 1, 1) := by decide +kernel
theorem d_Mo_odds_6 : decode M_Mo_odds.2.1 6 = .ok (.invokevirtual 272, 3) := by decide +kernel
theorem d_Mo_odds_9 : decode M_Mo_odds.2.1 9 = .ok (.ifCond .ne 10, 3) := by decide +kernel
theorem d_Mo_odds_12 : decode M_Mo_odds.2.1 12 = .ok (.aload_n 0, 1) := by decide +kernel
theorem d_Mo_odds_13 : decode M_Mo_odds.2.1 13 = .ok (.iconst 1, 1) := by decide +kernel
theorem d_Mo_odds_14 : decode M_Mo_odds.2.1 14 = .ok (.invokevirtual 157, 3) := by decide +kernel
theorem d_Mo_odds_17 : decode M_Mo_odds.2.1 17 = .ok (.i2l, 1) := by decide +kernel
theorem d_Mo_odds_18 : decode M_Mo_odds.2.1 18 = .ok (.lreturn, 1) := by decide +kernel
theorem d_Mo_odds_19 : decode M_Mo_odds.2.1 19 = .ok (.aload_n 0, 1) := by decide +kernel
theorem d_Mo_odds_20 : decode M_Mo_odds.2.1 20 = .ok (.iload_n 1, 1) := by decide +kernel
theorem d_Mo_odds_21 : decode M_Mo_odds.2.1 21 = .ok (.iload_n 2, 1) := by decide +kernel
theorem d_Mo_odds_22 : decode M_Mo_odds.2.1 22 = .ok (.invokevirtual 402, 3) := by decide +kernel
theorem d_Mo_odds_25 : decode M_Mo_odds.2.1 25 = .ok (.iload_n 3, 1) := by decide +kernel
theorem d_Mo_odds_26 : decode M_Mo_odds.2.1 26 = .ok (.ifCond .eq 10, 3) := by decide +kernel
theorem d_Mo_odds_29 : decode M_Mo_odds.2.1 29 = .ok (.aload_n 0, 1) := by decide +kernel
theorem d_Mo_odds_30 : decode M_Mo_odds.2.1 30 = .ok (.getfield 394, 3) := by decide +kernel
theorem d_Mo_odds_33 : decode M_Mo_odds.2.1 33 = .ok (.goto 7, 3) := by decide +kernel
theorem d_Mo_odds_36 : decode M_Mo_odds.2.1 36 = .ok (.aload_n 0, 1) := by decide +kernel
theorem d_Mo_odds_37 : decode M_Mo_odds.2.1 37 = .ok (.getfield 397, 3) := by decide +kernel
theorem d_Mo_odds_40 : decode M_Mo_odds.2.1 40 = .ok (.ldc2_w 400, 3) := by decide +kernel
theorem d_Mo_odds_43 : decode M_Mo_odds.2.1 43 = .ok (.iload 4, 2) := by decide +kernel
theorem d_Mo_odds_45 : decode M_Mo_odds.2.1 45 = .ok (.invokestatic 370, 3) := by decide +kernel
theorem d_Mo_odds_48 : decode M_Mo_odds.2.1 48 = .ok (.lreturn, 1) := by decide +kernel
theorem d_Mo_lostOdds_0 : decode M_Mo_lostOdds.2.1 0 = .ok (.aload_n 0, 1) := by decide +kernel
theorem d_Mo_lostOdds_1 : decode M_Mo_lostOdds.2.1 1 = .ok (.invokevirtual 154, 3) := by decide +kernel
theorem d_Mo_lostOdds_4 : decode M_Mo_lostOdds.2.1 4 = .ok (.aload_n 0, 1) := by decide +kernel
theorem d_Mo_lostOdds_5 : decode M_Mo_lostOdds.2.1 5 = .ok (.iload_n 1, 1) := by decide +kernel
theorem d_Mo_lostOdds_6 : decode M_Mo_lostOdds.2.1 6 = .ok (.invokevirtual 272, 3) := by decide +kernel
theorem d_Mo_lostOdds_9 : decode M_Mo_lostOdds.2.1 9 = .ok (.ifCond .ne 10, 3) := by decide +kernel
theorem d_Mo_lostOdds_12 : decode M_Mo_lostOdds.2.1 12 = .ok (.aload_n 0, 1) := by decide +kernel
theorem d_Mo_lostOdds_13 : decode M_Mo_lostOdds.2.1 13 = .ok (.iconst 1, 1) := by decide +kernel
theorem d_Mo_lostOdds_14 : decode M_Mo_lostOdds.2.1 14 = .ok (.invokevirtual 157, 3) := by decide +kernel
theorem d_Mo_lostOdds_17 : decode M_Mo_lostOdds.2.1 17 = .ok (.i2l, 1) := by decide +kernel
theorem d_Mo_lostOdds_18 : decode M_Mo_lostOdds.2.1 18 = .ok (.lreturn, 1) := by decide +kernel
theorem d_Mo_lostOdds_19 : decode M_Mo_lostOdds.2.1 19 = .ok (.aload_n 0, 1) := by decide +kernel
theorem d_Mo_lostOdds_20 : decode M_Mo_lostOdds.2.1 20 = .ok (.iload_n 1, 1) := by decide +kernel
theorem d_Mo_lostOdds_21 : decode M_Mo_lostOdds.2.1 21 = .ok (.iload_n 2, 1) := by decide +kernel
theorem d_Mo_lostOdds_22 : decode M_Mo_lostOdds.2.1 22 = .ok (.invokevirtual 402, 3) := by decide +kernel
theorem d_Mo_lostOdds_25 : decode M_Mo_lostOdds.2.1 25 = .ok (.aload_n 0, 1) := by decide +kernel
theorem d_Mo_lostOdds_26 : decode M_Mo_lostOdds.2.1 26 = .ok (.getfield 384, 3) := by decide +kernel
theorem d_Mo_lostOdds_29 : decode M_Mo_lostOdds.2.1 29 = .ok (.ldc2_w 400, 3) := by decide +kernel
theorem d_Mo_lostOdds_32 : decode M_Mo_lostOdds.2.1 32 = .ok (.iload_n 3, 1) := by decide +kernel
theorem d_Mo_lostOdds_33 : decode M_Mo_lostOdds.2.1 33 = .ok (.invokestatic 370, 3) := by decide +kernel
theorem d_Mo_lostOdds_36 : decode M_Mo_lostOdds.2.1 36 = .ok (.lreturn, 1) := by decide +kernel
theorem d_Mo_blownOf_0 : decode M_Mo_blownOf.2.1 0 = .ok (.iload_n 1, 1) := by decide +kernel
theorem d_Mo_blownOf_1 : decode M_Mo_blownOf.2.1 1 = .ok (.istore_n 3, 1) := by decide +kernel
theorem d_Mo_blownOf_2 : decode M_Mo_blownOf.2.1 2 = .ok (.iload_n 2, 1) := by decide +kernel
theorem d_Mo_blownOf_3 : decode M_Mo_blownOf.2.1 3 = .ok (.ifCond .eq 7, 3) := by decide +kernel
theorem d_Mo_blownOf_6 : decode M_Mo_blownOf.2.1 6 = .ok (.iconst 1, 1) := by decide +kernel
theorem d_Mo_blownOf_7 : decode M_Mo_blownOf.2.1 7 = .ok (.goto 4, 3) := by decide +kernel
theorem d_Mo_blownOf_10 : decode M_Mo_blownOf.2.1 10 = .ok (.iconst 0, 1) := by decide +kernel
theorem d_Mo_blownOf_11 : decode M_Mo_blownOf.2.1 11 = .ok (.istore 4, 2) := by decide +kernel
theorem d_Mo_blownOf_13 : decode M_Mo_blownOf.2.1 13 = .ok (.iconst 0, 1) := by decide +kernel
theorem d_Mo_blownOf_14 : decode M_Mo_blownOf.2.1 14 = .ok (.istore 5, 2) := by decide +kernel
theorem d_Mo_blownOf_16 : decode M_Mo_blownOf.2.1 16 = .ok (.iload 5, 2) := by decide +kernel
theorem d_Mo_blownOf_18 : decode M_Mo_blownOf.2.1 18 = .ok (.iload_n 3, 1) := by decide +kernel
theorem d_Mo_blownOf_19 : decode M_Mo_blownOf.2.1 19 = .ok (.invokestatic 231, 3) := by decide +kernel
theorem d_Mo_blownOf_22 : decode M_Mo_blownOf.2.1 22 = .ok (.ifCond .ne 102, 3) := by decide +kernel
theorem d_Mo_blownOf_25 : decode M_Mo_blownOf.2.1 25 = .ok (.iload 5, 2) := by decide +kernel
theorem d_Mo_blownOf_27 : decode M_Mo_blownOf.2.1 27 = .ok (.iconst 1, 1) := by decide +kernel
theorem d_Mo_blownOf_28 : decode M_Mo_blownOf.2.1 28 = .ok (.iload_n 3, 1) := by decide +kernel
theorem d_Mo_blownOf_29 : decode M_Mo_blownOf.2.1 29 = .ok (.ishl, 1) := by decide +kernel
theorem d_Mo_blownOf_30 : decode M_Mo_blownOf.2.1 30 = .ok (.ior, 1) := by decide +kernel
theorem d_Mo_blownOf_31 : decode M_Mo_blownOf.2.1 31 = .ok (.istore 5, 2) := by decide +kernel
theorem d_Mo_blownOf_33 : decode M_Mo_blownOf.2.1 33 = .ok (.aload_n 0, 1) := by decide +kernel
theorem d_Mo_blownOf_34 : decode M_Mo_blownOf.2.1 34 = .ok (.aload_n 0, 1) := by decide +kernel
theorem d_Mo_blownOf_35 : decode M_Mo_blownOf.2.1 35 = .ok (.getfield 32, 3) := by decide +kernel
theorem d_Mo_blownOf_38 : decode M_Mo_blownOf.2.1 38 = .ok (.iload_n 3, 1) := by decide +kernel
theorem d_Mo_blownOf_39 : decode M_Mo_blownOf.2.1 39 = .ok (.iload 4, 2) := by decide +kernel
theorem d_Mo_blownOf_41 : decode M_Mo_blownOf.2.1 41 = .ok (.invokevirtual 257, 3) := by decide +kernel
theorem d_Mo_blownOf_44 : decode M_Mo_blownOf.2.1 44 = .ok (.istore 4, 2) := by decide +kernel
theorem d_Mo_blownOf_46 : decode M_Mo_blownOf.2.1 46 = .ok (.iload 4, 2) := by decide +kernel
theorem d_Mo_blownOf_48 : decode M_Mo_blownOf.2.1 48 = .ok (.ifCond .ge 6, 3) := by decide +kernel
theorem d_Mo_blownOf_51 : decode M_Mo_blownOf.2.1 51 = .ok (.bipush (-2), 2) := by decide +kernel
theorem d_Mo_blownOf_53 : decode M_Mo_blownOf.2.1 53 = .ok (.ireturn, 1) := by decide +kernel
theorem d_Mo_blownOf_54 : decode M_Mo_blownOf.2.1 54 = .ok (.aload_n 0, 1) := by decide +kernel
theorem d_Mo_blownOf_55 : decode M_Mo_blownOf.2.1 55 = .ok (.bipush 75, 2) := by decide +kernel
theorem d_Mo_blownOf_57 : decode M_Mo_blownOf.2.1 57 = .ok (.aload_n 0, 1) := by decide +kernel
theorem d_Mo_blownOf_58 : decode M_Mo_blownOf.2.1 58 = .ok (.getfield 406, 3) := by decide +kernel
theorem d_Mo_blownOf_61 : decode M_Mo_blownOf.2.1 61 = .ok (.imul, 1) := by decide +kernel
theorem d_Mo_blownOf_62 : decode M_Mo_blownOf.2.1 62 = .ok (.bipush 74, 2) := by decide +kernel
theorem d_Mo_blownOf_64 : decode M_Mo_blownOf.2.1 64 = .ok (.iadd, 1) := by decide +kernel
theorem d_Mo_blownOf_65 : decode M_Mo_blownOf.2.1 65 = .ok (.ldc_w 409, 3) := by decide +kernel
theorem d_Mo_blownOf_68 : decode M_Mo_blownOf.2.1 68 = .ok (.irem, 1) := by decide +kernel
theorem d_Mo_blownOf_69 : decode M_Mo_blownOf.2.1 69 = .ok (.putfield 406, 3) := by decide +kernel
theorem d_Mo_blownOf_72 : decode M_Mo_blownOf.2.1 72 = .ok (.aload_n 0, 1) := by decide +kernel
theorem d_Mo_blownOf_73 : decode M_Mo_blownOf.2.1 73 = .ok (.getfield 406, 3) := by decide +kernel
theorem d_Mo_blownOf_76 : decode M_Mo_blownOf.2.1 76 = .ok (.bipush 100, 2) := by decide +kernel
theorem d_Mo_blownOf_78 : decode M_Mo_blownOf.2.1 78 = .ok (.irem, 1) := by decide +kernel
theorem d_Mo_blownOf_79 : decode M_Mo_blownOf.2.1 79 = .ok (.aload_n 0, 1) := by decide +kernel
theorem d_Mo_blownOf_80 : decode M_Mo_blownOf.2.1 80 = .ok (.getfield 20, 3) := by decide +kernel
theorem d_Mo_blownOf_83 : decode M_Mo_blownOf.2.1 83 = .ok (.iconst 0, 1) := by decide +kernel
theorem d_Mo_blownOf_84 : decode M_Mo_blownOf.2.1 84 = .ok (.iaload, 1) := by decide +kernel
theorem d_Mo_blownOf_85 : decode M_Mo_blownOf.2.1 85 = .ok (.if_icmp .ge 9, 3) := by decide +kernel
theorem d_Mo_blownOf_88 : decode M_Mo_blownOf.2.1 88 = .ok (.iconst 1, 1) := by decide +kernel
theorem d_Mo_blownOf_89 : decode M_Mo_blownOf.2.1 89 = .ok (.iload 4, 2) := by decide +kernel
theorem d_Mo_blownOf_91 : decode M_Mo_blownOf.2.1 91 = .ok (.isub, 1) := by decide +kernel
theorem d_Mo_blownOf_92 : decode M_Mo_blownOf.2.1 92 = .ok (.istore 4, 2) := by decide +kernel
theorem d_Mo_blownOf_94 : decode M_Mo_blownOf.2.1 94 = .ok (.aload_n 0, 1) := by decide +kernel
theorem d_Mo_blownOf_95 : decode M_Mo_blownOf.2.1 95 = .ok (.getfield 32, 3) := by decide +kernel
theorem d_Mo_blownOf_98 : decode M_Mo_blownOf.2.1 98 = .ok (.bipush 6, 2) := by decide +kernel
theorem d_Mo_blownOf_100 : decode M_Mo_blownOf.2.1 100 = .ok (.iload_n 3, 1) := by decide +kernel
theorem d_Mo_blownOf_101 : decode M_Mo_blownOf.2.1 101 = .ok (.iadd, 1) := by decide +kernel
theorem d_Mo_blownOf_102 : decode M_Mo_blownOf.2.1 102 = .ok (.iaload, 1) := by decide +kernel
theorem d_Mo_blownOf_103 : decode M_Mo_blownOf.2.1 103 = .ok (.ifCond .ne 6, 3) := by decide +kernel
theorem d_Mo_blownOf_106 : decode M_Mo_blownOf.2.1 106 = .ok (.iload 4, 2) := by decide +kernel
theorem d_Mo_blownOf_108 : decode M_Mo_blownOf.2.1 108 = .ok (.ireturn, 1) := by decide +kernel
theorem d_Mo_blownOf_109 : decode M_Mo_blownOf.2.1 109 = .ok (.aload_n 0, 1) := by decide +kernel
theorem d_Mo_blownOf_110 : decode M_Mo_blownOf.2.1 110 = .ok (.getfield 32, 3) := by decide +kernel
theorem d_Mo_blownOf_113 : decode M_Mo_blownOf.2.1 113 = .ok (.bipush 6, 2) := by decide +kernel
theorem d_Mo_blownOf_115 : decode M_Mo_blownOf.2.1 115 = .ok (.iload_n 3, 1) := by decide +kernel
theorem d_Mo_blownOf_116 : decode M_Mo_blownOf.2.1 116 = .ok (.iadd, 1) := by decide +kernel
theorem d_Mo_blownOf_117 : decode M_Mo_blownOf.2.1 117 = .ok (.iaload, 1) := by decide +kernel
theorem d_Mo_blownOf_118 : decode M_Mo_blownOf.2.1 118 = .ok (.iconst 1, 1) := by decide +kernel
theorem d_Mo_blownOf_119 : decode M_Mo_blownOf.2.1 119 = .ok (.isub, 1) := by decide +kernel
theorem d_Mo_blownOf_120 : decode M_Mo_blownOf.2.1 120 = .ok (.istore_n 3, 1) := by decide +kernel
theorem d_Mo_blownOf_121 : decode M_Mo_blownOf.2.1 121 = .ok (.goto (-105), 3) := by decide +kernel
theorem d_Mo_blownOf_124 : decode M_Mo_blownOf.2.1 124 = .ok (.bipush (-2), 2) := by decide +kernel
theorem d_Mo_blownOf_126 : decode M_Mo_blownOf.2.1 126 = .ok (.ireturn, 1) := by decide +kernel
theorem d_Mo_blown_0 : decode M_Mo_blown.2.1 0 = .ok (.aload_n 0, 1) := by decide +kernel
theorem d_Mo_blown_1 : decode M_Mo_blown.2.1 1 = .ok (.invokevirtual 154, 3) := by decide +kernel
theorem d_Mo_blown_4 : decode M_Mo_blown.2.1 4 = .ok (.aload_n 0, 1) := by decide +kernel
theorem d_Mo_blown_5 : decode M_Mo_blown.2.1 5 = .ok (.aload_n 0, 1) := by decide +kernel
theorem d_Mo_blown_6 : decode M_Mo_blown.2.1 6 = .ok (.iload_n 1, 1) := by decide +kernel
theorem d_Mo_blown_7 : decode M_Mo_blown.2.1 7 = .ok (.invokevirtual 272, 3) := by decide +kernel
theorem d_Mo_blown_10 : decode M_Mo_blown.2.1 10 = .ok (.iload_n 3, 1) := by decide +kernel
theorem d_Mo_blown_11 : decode M_Mo_blown.2.1 11 = .ok (.iconst 0, 1) := by decide +kernel
theorem d_Mo_blown_12 : decode M_Mo_blown.2.1 12 = .ok (.ldc_w 410, 3) := by decide +kernel
theorem d_Mo_blown_15 : decode M_Mo_blown.2.1 15 = .ok (.invokestatic 142, 3) := by decide +kernel
theorem d_Mo_blown_18 : decode M_Mo_blown.2.1 18 = .ok (.invokevirtual 323, 3) := by decide +kernel
theorem d_Mo_blown_21 : decode M_Mo_blown.2.1 21 = .ok (.istore 4, 2) := by decide +kernel
theorem d_Mo_blown_23 : decode M_Mo_blown.2.1 23 = .ok (.iload 4, 2) := by decide +kernel
theorem d_Mo_blown_25 : decode M_Mo_blown.2.1 25 = .ok (.ifCond .eq 10, 3) := by decide +kernel
theorem d_Mo_blown_28 : decode M_Mo_blown.2.1 28 = .ok (.aload_n 0, 1) := by decide +kernel
theorem d_Mo_blown_29 : decode M_Mo_blown.2.1 29 = .ok (.iload 4, 2) := by decide +kernel
theorem d_Mo_blown_31 : decode M_Mo_blown.2.1 31 = .ok (.invokevirtual 157, 3) := by decide +kernel
theorem d_Mo_blown_34 : decode M_Mo_blown.2.1 34 = .ok (.ireturn, 1) := by decide +kernel
theorem d_Mo_blown_35 : decode M_Mo_blown.2.1 35 = .ok (.aload_n 0, 1) := by decide +kernel
theorem d_Mo_blown_36 : decode M_Mo_blown.2.1 36 = .ok (.invokevirtual 281, 3) := by decide +kernel
theorem d_Mo_blown_39 : decode M_Mo_blown.2.1 39 = .ok (.aload_n 0, 1) := by decide +kernel
theorem d_Mo_blown_40 : decode M_Mo_blown.2.1 40 = .ok (.iload_n 3, 1) := by decide +kernel
theorem d_Mo_blown_41 : decode M_Mo_blown.2.1 41 = .ok (.putfield 406, 3) := by decide +kernel
theorem d_Mo_blown_44 : decode M_Mo_blown.2.1 44 = .ok (.aload_n 0, 1) := by decide +kernel
theorem d_Mo_blown_45 : decode M_Mo_blown.2.1 45 = .ok (.iload_n 1, 1) := by decide +kernel
theorem d_Mo_blown_46 : decode M_Mo_blown.2.1 46 = .ok (.iload_n 2, 1) := by decide +kernel
theorem d_Mo_blown_47 : decode M_Mo_blown.2.1 47 = .ok (.invokevirtual 411, 3) := by decide +kernel
theorem d_Mo_blown_50 : decode M_Mo_blown.2.1 50 = .ok (.ireturn, 1) := by decide +kernel
theorem d_Mo_yeses_0 : decode M_Mo_yeses.2.1 0 = .ok (.aload_n 0, 1) := by decide +kernel
theorem d_Mo_yeses_1 : decode M_Mo_yeses.2.1 1 = .ok (.invokevirtual 154, 3) := by decide +kernel
theorem d_Mo_yeses_4 : decode M_Mo_yeses.2.1 4 = .ok (.aload_n 0, 1) := by decide +kernel
theorem d_Mo_yeses_5 : decode M_Mo_yeses.2.1 5 = .ok (.aload_n 0, 1) := by decide +kernel
theorem d_Mo_yeses_6 : decode M_Mo_yeses.2.1 6 = .ok (.iload_n 1, 1) := by decide +kernel
theorem d_Mo_yeses_7 : decode M_Mo_yeses.2.1 7 = .ok (.invokevirtual 272, 3) := by decide +kernel
theorem d_Mo_yeses_10 : decode M_Mo_yeses.2.1 10 = .ok (.iload_n 3, 1) := by decide +kernel
theorem d_Mo_yeses_11 : decode M_Mo_yeses.2.1 11 = .ok (.iconst 0, 1) := by decide +kernel
theorem d_Mo_yeses_12 : decode M_Mo_yeses.2.1 12 = .ok (.ldc_w 410, 3) := by decide +kernel
theorem d_Mo_yeses_15 : decode M_Mo_yeses.2.1 15 = .ok (.invokestatic 142, 3) := by decide +kernel
theorem d_Mo_yeses_18 : decode M_Mo_yeses.2.1 18 = .ok (.ifCond .eq 18, 3) := by decide +kernel
theorem d_Mo_yeses_21 : decode M_Mo_yeses.2.1 21 = .ok (.iload 4, 2) := by decide +kernel
theorem d_Mo_yeses_23 : decode M_Mo_yeses.2.1 23 = .ok (.iconst 0, 1) := by decide +kernel
theorem d_Mo_yeses_24 : decode M_Mo_yeses.2.1 24 = .ok (.bipush 60, 2) := by decide +kernel
theorem d_Mo_yeses_26 : decode M_Mo_yeses.2.1 26 = .ok (.invokestatic 142, 3) := by decide +kernel
theorem d_Mo_yeses_29 : decode M_Mo_yeses.2.1 29 = .ok (.ifCond .eq 7, 3) := by decide +kernel
theorem d_Mo_yeses_32 : decode M_Mo_yeses.2.1 32 = .ok (.iconst 1, 1) := by decide +kernel
theorem d_Mo_yeses_33 : decode M_Mo_yeses.2.1 33 = .ok (.goto 4, 3) := by decide +kernel
theorem d_Mo_yeses_36 : decode M_Mo_yeses.2.1 36 = .ok (.iconst 0, 1) := by decide +kernel
theorem d_Mo_yeses_37 : decode M_Mo_yeses.2.1 37 = .ok (.invokevirtual 323, 3) := by decide +kernel
theorem d_Mo_yeses_40 : decode M_Mo_yeses.2.1 40 = .ok (.istore 5, 2) := by decide +kernel
theorem d_Mo_yeses_42 : decode M_Mo_yeses.2.1 42 = .ok (.iload 5, 2) := by decide +kernel
theorem d_Mo_yeses_44 : decode M_Mo_yeses.2.1 44 = .ok (.ifCond .eq 10, 3) := by decide +kernel
theorem d_Mo_yeses_47 : decode M_Mo_yeses.2.1 47 = .ok (.aload_n 0, 1) := by decide +kernel
theorem d_Mo_yeses_48 : decode M_Mo_yeses.2.1 48 = .ok (.iload 5, 2) := by decide +kernel
theorem d_Mo_yeses_50 : decode M_Mo_yeses.2.1 50 = .ok (.invokevirtual 157, 3) := by decide +kernel
theorem d_Mo_yeses_53 : decode M_Mo_yeses.2.1 53 = .ok (.ireturn, 1) := by decide +kernel
theorem d_Mo_yeses_54 : decode M_Mo_yeses.2.1 54 = .ok (.aload_n 0, 1) := by decide +kernel
theorem d_Mo_yeses_55 : decode M_Mo_yeses.2.1 55 = .ok (.invokevirtual 281, 3) := by decide +kernel
theorem d_Mo_yeses_58 : decode M_Mo_yeses.2.1 58 = .ok (.aload_n 0, 1) := by decide +kernel
theorem d_Mo_yeses_59 : decode M_Mo_yeses.2.1 59 = .ok (.iload_n 3, 1) := by decide +kernel
theorem d_Mo_yeses_60 : decode M_Mo_yeses.2.1 60 = .ok (.putfield 406, 3) := by decide +kernel
theorem d_Mo_yeses_63 : decode M_Mo_yeses.2.1 63 = .ok (.iconst 0, 1) := by decide +kernel
theorem d_Mo_yeses_64 : decode M_Mo_yeses.2.1 64 = .ok (.istore 6, 2) := by decide +kernel
theorem d_Mo_yeses_66 : decode M_Mo_yeses.2.1 66 = .ok (.iconst 0, 1) := by decide +kernel
theorem d_Mo_yeses_67 : decode M_Mo_yeses.2.1 67 = .ok (.istore 7, 2) := by decide +kernel
theorem d_Mo_yeses_69 : decode M_Mo_yeses.2.1 69 = .ok (.iload 7, 2) := by decide +kernel
theorem d_Mo_yeses_71 : decode M_Mo_yeses.2.1 71 = .ok (.iload 4, 2) := by decide +kernel
theorem d_Mo_yeses_73 : decode M_Mo_yeses.2.1 73 = .ok (.if_icmp .ge 29, 3) := by decide +kernel
theorem d_Mo_yeses_76 : decode M_Mo_yeses.2.1 76 = .ok (.iload 6, 2) := by decide +kernel
theorem d_Mo_yeses_78 : decode M_Mo_yeses.2.1 78 = .ok (.aload_n 0, 1) := by decide +kernel
theorem d_Mo_yeses_79 : decode M_Mo_yeses.2.1 79 = .ok (.iload_n 1, 1) := by decide +kernel
theorem d_Mo_yeses_80 : decode M_Mo_yeses.2.1 80 = .ok (.iload_n 2, 1) := by decide +kernel
theorem d_Mo_yeses_81 : decode M_Mo_yeses.2.1 81 = .ok (.invokevirtual 411, 3) := by decide +kernel
theorem d_Mo_yeses_84 : decode M_Mo_yeses.2.1 84 = .ok (.iconst 1, 1) := by decide +kernel
theorem d_Mo_yeses_85 : decode M_Mo_yeses.2.1 85 = .ok (.if_icmp .ne 7, 3) := by decide +kernel
theorem d_Mo_yeses_88 : decode M_Mo_yeses.2.1 88 = .ok (.iconst 1, 1) := by decide +kernel
theorem d_Mo_yeses_89 : decode M_Mo_yeses.2.1 89 = .ok (.goto 4, 3) := by decide +kernel
theorem d_Mo_yeses_92 : decode M_Mo_yeses.2.1 92 = .ok (.iconst 0, 1) := by decide +kernel
theorem d_Mo_yeses_93 : decode M_Mo_yeses.2.1 93 = .ok (.iadd, 1) := by decide +kernel
theorem d_Mo_yeses_94 : decode M_Mo_yeses.2.1 94 = .ok (.istore 6, 2) := by decide +kernel
theorem d_Mo_yeses_96 : decode M_Mo_yeses.2.1 96 = .ok (.iinc 7 1, 3) := by decide +kernel
theorem d_Mo_yeses_99 : decode M_Mo_yeses.2.1 99 = .ok (.goto (-30), 3) := by decide +kernel
theorem d_Mo_yeses_102 : decode M_Mo_yeses.2.1 102 = .ok (.iload 6, 2) := by decide +kernel
theorem d_Mo_yeses_104 : decode M_Mo_yeses.2.1 104 = .ok (.ireturn, 1) := by decide +kernel
theorem d_Mo_note_0 : decode M_Mo_note.2.1 0 = .ok (.aload_n 0, 1) := by decide +kernel
theorem d_Mo_note_1 : decode M_Mo_note.2.1 1 = .ok (.getfield 170, 3) := by decide +kernel
theorem d_Mo_note_4 : decode M_Mo_note.2.1 4 = .ok (.bipush 16, 2) := by decide +kernel
theorem d_Mo_note_6 : decode M_Mo_note.2.1 6 = .ok (.if_icmp .ne 43, 3) := by decide +kernel
theorem d_Mo_note_9 : decode M_Mo_note.2.1 9 = .ok (.iconst 0, 1) := by decide +kernel
theorem d_Mo_note_10 : decode M_Mo_note.2.1 10 = .ok (.istore_n 1, 1) := by decide +kernel
theorem d_Mo_note_11 : decode M_Mo_note.2.1 11 = .ok (.iload_n 1, 1) := by decide +kernel
theorem d_Mo_note_12 : decode M_Mo_note.2.1 12 = .ok (.sipush 210, 3) := by decide +kernel
theorem d_Mo_note_15 : decode M_Mo_note.2.1 15 = .ok (.if_icmp .ge 24, 3) := by decide +kernel
theorem d_Mo_note_18 : decode M_Mo_note.2.1 18 = .ok (.aload_n 0, 1) := by decide +kernel
theorem d_Mo_note_19 : decode M_Mo_note.2.1 19 = .ok (.getfield 35, 3) := by decide +kernel
theorem d_Mo_note_22 : decode M_Mo_note.2.1 22 = .ok (.iload_n 1, 1) := by decide +kernel
theorem d_Mo_note_23 : decode M_Mo_note.2.1 23 = .ok (.aload_n 0, 1) := by decide +kernel
theorem d_Mo_note_24 : decode M_Mo_note.2.1 24 = .ok (.getfield 35, 3) := by decide +kernel
theorem d_Mo_note_27 : decode M_Mo_note.2.1 27 = .ok (.iload_n 1, 1) := by decide +kernel
theorem d_Mo_note_28 : decode M_Mo_note.2.1 28 = .ok (.bipush 14, 2) := by decide +kernel
theorem d_Mo_note_30 : decode M_Mo_note.2.1 30 = .ok (.iadd, 1) := by decide +kernel
theorem d_Mo_note_31 : decode M_Mo_note.2.1 31 = .ok (.iaload, 1) := by decide +kernel
theorem d_Mo_note_32 : decode M_Mo_note.2.1 32 = .ok (.iastore, 1) := by decide +kernel
theorem d_Mo_note_33 : decode M_Mo_note.2.1 33 = .ok (.iinc 1 1, 3) := by decide +kernel
theorem d_Mo_note_36 : decode M_Mo_note.2.1 36 = .ok (.goto (-25), 3) := by decide +kernel
theorem d_Mo_note_39 : decode M_Mo_note.2.1 39 = .ok (.aload_n 0, 1) := by decide +kernel
theorem d_Mo_note_40 : decode M_Mo_note.2.1 40 = .ok (.dup, 1) := by decide +kernel
theorem d_Mo_note_41 : decode M_Mo_note.2.1 41 = .ok (.getfield 170, 3) := by decide +kernel
theorem d_Mo_note_44 : decode M_Mo_note.2.1 44 = .ok (.iconst 1, 1) := by decide +kernel
theorem d_Mo_note_45 : decode M_Mo_note.2.1 45 = .ok (.isub, 1) := by decide +kernel
theorem d_Mo_note_46 : decode M_Mo_note.2.1 46 = .ok (.putfield 170, 3) := by decide +kernel
theorem d_Mo_note_49 : decode M_Mo_note.2.1 49 = .ok (.aload_n 0, 1) := by decide +kernel
theorem d_Mo_note_50 : decode M_Mo_note.2.1 50 = .ok (.getfield 32, 3) := by decide +kernel
theorem d_Mo_note_53 : decode M_Mo_note.2.1 53 = .ok (.iconst 0, 1) := by decide +kernel
theorem d_Mo_note_54 : decode M_Mo_note.2.1 54 = .ok (.aload_n 0, 1) := by decide +kernel
theorem d_Mo_note_55 : decode M_Mo_note.2.1 55 = .ok (.getfield 35, 3) := by decide +kernel
theorem d_Mo_note_58 : decode M_Mo_note.2.1 58 = .ok (.bipush 14, 2) := by decide +kernel
theorem d_Mo_note_60 : decode M_Mo_note.2.1 60 = .ok (.aload_n 0, 1) := by decide +kernel
theorem d_Mo_note_61 : decode M_Mo_note.2.1 61 = .ok (.getfield 170, 3) := by decide +kernel
theorem d_Mo_note_64 : decode M_Mo_note.2.1 64 = .ok (.imul, 1) := by decide +kernel
theorem d_Mo_note_65 : decode M_Mo_note.2.1 65 = .ok (.bipush 14, 2) := by decide +kernel
theorem d_Mo_note_67 : decode M_Mo_note.2.1 67 = .ok (.invokestatic 163, 3) := by decide +kernel
theorem d_Mo_note_70 : decode M_Mo_note.2.1 70 = .ok (.aload_n 0, 1) := by decide +kernel
theorem d_Mo_note_71 : decode M_Mo_note.2.1 71 = .ok (.dup, 1) := by decide +kernel
theorem d_Mo_note_72 : decode M_Mo_note.2.1 72 = .ok (.getfield 170, 3) := by decide +kernel
theorem d_Mo_note_75 : decode M_Mo_note.2.1 75 = .ok (.iconst 1, 1) := by decide +kernel
theorem d_Mo_note_76 : decode M_Mo_note.2.1 76 = .ok (.iadd, 1) := by decide +kernel
theorem d_Mo_note_77 : decode M_Mo_note.2.1 77 = .ok (.putfield 170, 3) := by decide +kernel
theorem d_Mo_note_80 : decode M_Mo_note.2.1 80 = .ok (.return_, 1) := by decide +kernel
theorem d_Mo_ruins_0 : decode M_Mo_ruins.2.1 0 = .ok (.iconst 0, 1) := by decide +kernel
theorem d_Mo_ruins_1 : decode M_Mo_ruins.2.1 1 = .ok (.istore_n 1, 1) := by decide +kernel
theorem d_Mo_ruins_2 : decode M_Mo_ruins.2.1 2 = .ok (.iconst 0, 1) := by decide +kernel
theorem d_Mo_ruins_3 : decode M_Mo_ruins.2.1 3 = .ok (.istore_n 2, 1) := by decide +kernel
theorem d_Mo_ruins_4 : decode M_Mo_ruins.2.1 4 = .ok (.iload_n 2, 1) := by decide +kernel
theorem d_Mo_ruins_5 : decode M_Mo_ruins.2.1 5 = .ok (.aload_n 0, 1) := by decide +kernel
theorem d_Mo_ruins_6 : decode M_Mo_ruins.2.1 6 = .ok (.getfield 20, 3) := by decide +kernel
theorem d_Mo_ruins_9 : decode M_Mo_ruins.2.1 9 = .ok (.iconst 2, 1) := by decide +kernel
theorem d_Mo_ruins_10 : decode M_Mo_ruins.2.1 10 = .ok (.iaload, 1) := by decide +kernel
theorem d_Mo_ruins_11 : decode M_Mo_ruins.2.1 11 = .ok (.if_icmp .ge 28, 3) := by decide +kernel
theorem d_Mo_ruins_14 : decode M_Mo_ruins.2.1 14 = .ok (.iload_n 1, 1) := by decide +kernel
theorem d_Mo_ruins_15 : decode M_Mo_ruins.2.1 15 = .ok (.aload_n 0, 1) := by decide +kernel
theorem d_Mo_ruins_16 : decode M_Mo_ruins.2.1 16 = .ok (.getfield 32, 3) := by decide +kernel
theorem d_Mo_ruins_19 : decode M_Mo_ruins.2.1 19 = .ok (.iload_n 2, 1) := by decide +kernel
theorem d_Mo_ruins_20 : decode M_Mo_ruins.2.1 20 = .ok (.iaload, 1) := by decide +kernel
theorem d_Mo_ruins_21 : decode M_Mo_ruins.2.1 21 = .ok (.ifCond .ne 9, 3) := by decide +kernel
theorem d_Mo_ruins_24 : decode M_Mo_ruins.2.1 24 = .ok (.iconst 1, 1) := by decide +kernel
theorem d_Mo_ruins_25 : decode M_Mo_ruins.2.1 25 = .ok (.iload_n 2, 1) := by decide +kernel
theorem d_Mo_ruins_26 : decode M_Mo_ruins.2.1 26 = .ok (.ishl, 1) := by decide +kernel
theorem d_Mo_ruins_27 : decode M_Mo_ruins.2.1 27 = .ok (.goto 4, 3) := by decide +kernel
theorem d_Mo_ruins_30 : decode M_Mo_ruins.2.1 30 = .ok (.iconst 0, 1) := by decide +kernel
theorem d_Mo_ruins_31 : decode M_Mo_ruins.2.1 31 = .ok (.ior, 1) := by decide +kernel
theorem d_Mo_ruins_32 : decode M_Mo_ruins.2.1 32 = .ok (.istore_n 1, 1) := by decide +kernel
theorem d_Mo_ruins_33 : decode M_Mo_ruins.2.1 33 = .ok (.iinc 2 1, 3) := by decide +kernel
theorem d_Mo_ruins_36 : decode M_Mo_ruins.2.1 36 = .ok (.goto (-32), 3) := by decide +kernel
theorem d_Mo_ruins_39 : decode M_Mo_ruins.2.1 39 = .ok (.iload_n 1, 1) := by decide +kernel
theorem d_Mo_ruins_40 : decode M_Mo_ruins.2.1 40 = .ok (.ireturn, 1) := by decide +kernel
theorem d_Mo_year_0 : decode M_Mo_year.2.1 0 = .ok (.aload_n 0, 1) := by decide +kernel
theorem d_Mo_year_1 : decode M_Mo_year.2.1 1 = .ok (.invokevirtual 154, 3) := by decide +kernel
theorem d_Mo_year_4 : decode M_Mo_year.2.1 4 = .ok (.aload_n 0, 1) := by decide +kernel
theorem d_Mo_year_5 : decode M_Mo_year.2.1 5 = .ok (.getfield 167, 3) := by decide +kernel
theorem d_Mo_year_8 : decode M_Mo_year.2.1 8 = .ok (.ifCond .ne 9, 3) := by decide +kernel
theorem d_Mo_year_11 : decode M_Mo_year.2.1 11 = .ok (.aload_n 0, 1) := by decide +kernel
theorem d_Mo_year_12 : decode M_Mo_year.2.1 12 = .ok (.iconst 1, 1) := by decide +kernel
theorem d_Mo_year_13 : decode M_Mo_year.2.1 13 = .ok (.invokevirtual 157, 3) := by decide +kernel
theorem d_Mo_year_16 : decode M_Mo_year.2.1 16 = .ok (.ireturn, 1) := by decide +kernel
theorem d_Mo_year_17 : decode M_Mo_year.2.1 17 = .ok (.aload_n 0, 1) := by decide +kernel
theorem d_Mo_year_18 : decode M_Mo_year.2.1 18 = .ok (.getfield 32, 3) := by decide +kernel
theorem d_Mo_year_21 : decode M_Mo_year.2.1 21 = .ok (.bipush 13, 2) := by decide +kernel
theorem d_Mo_year_23 : decode M_Mo_year.2.1 23 = .ok (.iaload, 1) := by decide +kernel
theorem d_Mo_year_24 : decode M_Mo_year.2.1 24 = .ok (.sipush 999, 3) := by decide +kernel
theorem d_Mo_year_27 : decode M_Mo_year.2.1 27 = .ok (.if_icmp .ne 9, 3) := by decide +kernel
theorem d_Mo_year_30 : decode M_Mo_year.2.1 30 = .ok (.aload_n 0, 1) := by decide +kernel
theorem d_Mo_year_31 : decode M_Mo_year.2.1 31 = .ok (.iconst 3, 1) := by decide +kernel
theorem d_Mo_year_32 : decode M_Mo_year.2.1 32 = .ok (.invokevirtual 157, 3) := by decide +kernel
theorem d_Mo_year_35 : decode M_Mo_year.2.1 35 = .ok (.ireturn, 1) := by decide +kernel
theorem d_Mo_year_36 : decode M_Mo_year.2.1 36 = .ok (.aload_n 0, 1) := by decide +kernel
theorem d_Mo_year_37 : decode M_Mo_year.2.1 37 = .ok (.invokevirtual 414, 3) := by decide +kernel
theorem d_Mo_year_40 : decode M_Mo_year.2.1 40 = .ok (.aload_n 0, 1) := by decide +kernel
theorem d_Mo_year_41 : decode M_Mo_year.2.1 41 = .ok (.invokevirtual 417, 3) := by decide +kernel
theorem d_Mo_year_44 : decode M_Mo_year.2.1 44 = .ok (.istore_n 1, 1) := by decide +kernel
theorem d_Mo_year_45 : decode M_Mo_year.2.1 45 = .ok (.aload_n 0, 1) := by decide +kernel
theorem d_Mo_year_46 : decode M_Mo_year.2.1 46 = .ok (.aload_n 0, 1) := by decide +kernel
theorem d_Mo_year_47 : decode M_Mo_year.2.1 47 = .ok (.getfield 32, 3) := by decide +kernel
theorem d_Mo_year_50 : decode M_Mo_year.2.1 50 = .ok (.invokevirtual 319, 3) := by decide +kernel
theorem d_Mo_year_53 : decode M_Mo_year.2.1 53 = .ok (.aload_n 0, 1) := by decide +kernel
theorem d_Mo_year_54 : decode M_Mo_year.2.1 54 = .ok (.invokevirtual 417, 3) := by decide +kernel
theorem d_Mo_year_57 : decode M_Mo_year.2.1 57 = .ok (.iload_n 1, 1) := by decide +kernel
theorem d_Mo_year_58 : decode M_Mo_year.2.1 58 = .ok (.iconst (-1), 1) := by decide +kernel
theorem d_Mo_year_59 : decode M_Mo_year.2.1 59 = .ok (.ixor, 1) := by decide +kernel
theorem d_Mo_year_60 : decode M_Mo_year.2.1 60 = .ok (.iand, 1) := by decide +kernel
theorem d_Mo_year_61 : decode M_Mo_year.2.1 61 = .ok (.ireturn, 1) := by decide +kernel
theorem d_Mo_mend_0 : decode M_Mo_mend.2.1 0 = .ok (.aload_n 0, 1) := by decide +kernel
theorem d_Mo_mend_1 : decode M_Mo_mend.2.1 1 = .ok (.invokevirtual 154, 3) := by decide +kernel
theorem d_Mo_mend_4 : decode M_Mo_mend.2.1 4 = .ok (.aload_n 0, 1) := by decide +kernel
theorem d_Mo_mend_5 : decode M_Mo_mend.2.1 5 = .ok (.iload_n 1, 1) := by decide +kernel
theorem d_Mo_mend_6 : decode M_Mo_mend.2.1 6 = .ok (.invokevirtual 272, 3) := by decide +kernel
theorem d_Mo_mend_9 : decode M_Mo_mend.2.1 9 = .ok (.ifCond .ne 9, 3) := by decide +kernel
theorem d_Mo_mend_12 : decode M_Mo_mend.2.1 12 = .ok (.aload_n 0, 1) := by decide +kernel
theorem d_Mo_mend_13 : decode M_Mo_mend.2.1 13 = .ok (.iconst 1, 1) := by decide +kernel
theorem d_Mo_mend_14 : decode M_Mo_mend.2.1 14 = .ok (.invokevirtual 157, 3) := by decide +kernel
theorem d_Mo_mend_17 : decode M_Mo_mend.2.1 17 = .ok (.ireturn, 1) := by decide +kernel
theorem d_Mo_mend_18 : decode M_Mo_mend.2.1 18 = .ok (.aload_n 0, 1) := by decide +kernel
theorem d_Mo_mend_19 : decode M_Mo_mend.2.1 19 = .ok (.getfield 20, 3) := by decide +kernel
theorem d_Mo_mend_22 : decode M_Mo_mend.2.1 22 = .ok (.bipush 7, 2) := by decide +kernel
theorem d_Mo_mend_24 : decode M_Mo_mend.2.1 24 = .ok (.iconst 2, 1) := by decide +kernel
theorem d_Mo_mend_25 : decode M_Mo_mend.2.1 25 = .ok (.iload_n 1, 1) := by decide +kernel
theorem d_Mo_mend_26 : decode M_Mo_mend.2.1 26 = .ok (.imul, 1) := by decide +kernel
theorem d_Mo_mend_27 : decode M_Mo_mend.2.1 27 = .ok (.iadd, 1) := by decide +kernel
theorem d_Mo_mend_28 : decode M_Mo_mend.2.1 28 = .ok (.iconst 1, 1) := by decide +kernel
theorem d_Mo_mend_29 : decode M_Mo_mend.2.1 29 = .ok (.iadd, 1) := by decide +kernel
theorem d_Mo_mend_30 : decode M_Mo_mend.2.1 30 = .ok (.iaload, 1) := by decide +kernel
theorem d_Mo_mend_31 : decode M_Mo_mend.2.1 31 = .ok (.istore_n 2, 1) := by decide +kernel
theorem d_Mo_mend_32 : decode M_Mo_mend.2.1 32 = .ok (.aload_n 0, 1) := by decide +kernel
theorem d_Mo_mend_33 : decode M_Mo_mend.2.1 33 = .ok (.getfield 32, 3) := by decide +kernel
theorem d_Mo_mend_36 : decode M_Mo_mend.2.1 36 = .ok (.iload_n 1, 1) := by decide +kernel
theorem d_Mo_mend_37 : decode M_Mo_mend.2.1 37 = .ok (.iaload, 1) := by decide +kernel
theorem d_Mo_mend_38 : decode M_Mo_mend.2.1 38 = .ok (.iload_n 2, 1) := by decide +kernel
theorem d_Mo_mend_39 : decode M_Mo_mend.2.1 39 = .ok (.if_icmp .ne 9, 3) := by decide +kernel
theorem d_Mo_mend_42 : decode M_Mo_mend.2.1 42 = .ok (.aload_n 0, 1) := by decide +kernel
theorem d_Mo_mend_43 : decode M_Mo_mend.2.1 43 = .ok (.iconst 5, 1) := by decide +kernel
theorem d_Mo_mend_44 : decode M_Mo_mend.2.1 44 = .ok (.invokevirtual 157, 3) := by decide +kernel
theorem d_Mo_mend_47 : decode M_Mo_mend.2.1 47 = .ok (.ireturn, 1) := by decide +kernel
theorem d_Mo_mend_48 : decode M_Mo_mend.2.1 48 = .ok (.aload_n 0, 1) := by decide +kernel
theorem d_Mo_mend_49 : decode M_Mo_mend.2.1 49 = .ok (.invokevirtual 414, 3) := by decide +kernel
theorem d_Mo_mend_52 : decode M_Mo_mend.2.1 52 = .ok (.aload_n 0, 1) := by decide +kernel
theorem d_Mo_mend_53 : decode M_Mo_mend.2.1 53 = .ok (.getfield 32, 3) := by decide +kernel
theorem d_Mo_mend_56 : decode M_Mo_mend.2.1 56 = .ok (.iload_n 1, 1) := by decide +kernel
theorem d_Mo_mend_57 : decode M_Mo_mend.2.1 57 = .ok (.iload_n 2, 1) := by decide +kernel
theorem d_Mo_mend_58 : decode M_Mo_mend.2.1 58 = .ok (.iastore, 1) := by decide +kernel
theorem d_Mo_mend_59 : decode M_Mo_mend.2.1 59 = .ok (.iload_n 2, 1) := by decide +kernel
theorem d_Mo_mend_60 : decode M_Mo_mend.2.1 60 = .ok (.ireturn, 1) := by decide +kernel
theorem d_Mo_hire_0 : decode M_Mo_hire.2.1 0 = .ok (.aload_n 0, 1) := by decide +kernel
theorem d_Mo_hire_1 : decode M_Mo_hire.2.1 1 = .ok (.invokevirtual 154, 3) := by decide +kernel
theorem d_Mo_hire_4 : decode M_Mo_hire.2.1 4 = .ok (.aload_n 0, 1) := by decide +kernel
theorem d_Mo_hire_5 : decode M_Mo_hire.2.1 5 = .ok (.iload_n 1, 1) := by decide +kernel
theorem d_Mo_hire_6 : decode M_Mo_hire.2.1 6 = .ok (.invokevirtual 272, 3) := by decide +kernel
theorem d_Mo_hire_9 : decode M_Mo_hire.2.1 9 = .ok (.ifCond .ne 9, 3) := by decide +kernel
theorem d_Mo_hire_12 : decode M_Mo_hire.2.1 12 = .ok (.aload_n 0, 1) := by decide +kernel
theorem d_Mo_hire_13 : decode M_Mo_hire.2.1 13 = .ok (.iconst 1, 1) := by decide +kernel
theorem d_Mo_hire_14 : decode M_Mo_hire.2.1 14 = .ok (.invokevirtual 157, 3) := by decide +kernel
theorem d_Mo_hire_17 : decode M_Mo_hire.2.1 17 = .ok (.ireturn, 1) := by decide +kernel
theorem d_Mo_hire_18 : decode M_Mo_hire.2.1 18 = .ok (.aload_n 0, 1) := by decide +kernel
theorem d_Mo_hire_19 : decode M_Mo_hire.2.1 19 = .ok (.invokevirtual 414, 3) := by decide +kernel
theorem d_Mo_hire_22 : decode M_Mo_hire.2.1 22 = .ok (.aload_n 0, 1) := by decide +kernel
theorem d_Mo_hire_23 : decode M_Mo_hire.2.1 23 = .ok (.getfield 32, 3) := by decide +kernel
theorem d_Mo_hire_26 : decode M_Mo_hire.2.1 26 = .ok (.bipush 12, 2) := by decide +kernel
theorem d_Mo_hire_28 : decode M_Mo_hire.2.1 28 = .ok (.dup2, 1) := by decide +kernel
theorem d_Mo_hire_29 : decode M_Mo_hire.2.1 29 = .ok (.iaload, 1) := by decide +kernel
theorem d_Mo_hire_30 : decode M_Mo_hire.2.1 30 = .ok (.iconst 1, 1) := by decide +kernel
theorem d_Mo_hire_31 : decode M_Mo_hire.2.1 31 = .ok (.iload_n 1, 1) := by decide +kernel
theorem d_Mo_hire_32 : decode M_Mo_hire.2.1 32 = .ok (.ishl, 1) := by decide +kernel
theorem d_Mo_hire_33 : decode M_Mo_hire.2.1 33 = .ok (.ixor, 1) := by decide +kernel
theorem d_Mo_hire_34 : decode M_Mo_hire.2.1 34 = .ok (.iastore, 1) := by decide +kernel
theorem d_Mo_hire_35 : decode M_Mo_hire.2.1 35 = .ok (.aload_n 0, 1) := by decide +kernel
theorem d_Mo_hire_36 : decode M_Mo_hire.2.1 36 = .ok (.getfield 32, 3) := by decide +kernel
theorem d_Mo_hire_39 : decode M_Mo_hire.2.1 39 = .ok (.bipush 12, 2) := by decide +kernel
theorem d_Mo_hire_41 : decode M_Mo_hire.2.1 41 = .ok (.iaload, 1) := by decide +kernel
theorem d_Mo_hire_42 : decode M_Mo_hire.2.1 42 = .ok (.iload_n 1, 1) := by decide +kernel
theorem d_Mo_hire_43 : decode M_Mo_hire.2.1 43 = .ok (.ishr, 1) := by decide +kernel
theorem d_Mo_hire_44 : decode M_Mo_hire.2.1 44 = .ok (.iconst 1, 1) := by decide +kernel
theorem d_Mo_hire_45 : decode M_Mo_hire.2.1 45 = .ok (.iand, 1) := by decide +kernel
theorem d_Mo_hire_46 : decode M_Mo_hire.2.1 46 = .ok (.ireturn, 1) := by decide +kernel
theorem d_Mo_send_0 : decode M_Mo_send.2.1 0 = .ok (.aload_n 0, 1) := by decide +kernel
theorem d_Mo_send_1 : decode M_Mo_send.2.1 1 = .ok (.invokevirtual 154, 3) := by decide +kernel
theorem d_Mo_send_4 : decode M_Mo_send.2.1 4 = .ok (.aload_n 0, 1) := by decide +kernel
theorem d_Mo_send_5 : decode M_Mo_send.2.1 5 = .ok (.iload_n 1, 1) := by decide +kernel
theorem d_Mo_send_6 : decode M_Mo_send.2.1 6 = .ok (.invokevirtual 272, 3) := by decide +kernel
theorem d_Mo_send_9 : decode M_Mo_send.2.1 9 = .ok (.ifCond .eq 11, 3) := by decide +kernel
theorem d_Mo_send_12 : decode M_Mo_send.2.1 12 = .ok (.aload_n 0, 1) := by decide +kernel
theorem d_Mo_send_13 : decode M_Mo_send.2.1 13 = .ok (.iload_n 2, 1) := by decide +kernel
theorem d_Mo_send_14 : decode M_Mo_send.2.1 14 = .ok (.invokevirtual 272, 3) := by decide +kernel
theorem d_Mo_send_17 : decode M_Mo_send.2.1 17 = .ok (.ifCond .ne 9, 3) := by decide +kernel
theorem d_Mo_send_20 : decode M_Mo_send.2.1 20 = .ok (.aload_n 0, 1) := by decide +kernel
theorem d_Mo_send_21 : decode M_Mo_send.2.1 21 = .ok (.iconst 1, 1) := by decide +kernel
theorem d_Mo_send_22 : decode M_Mo_send.2.1 22 = .ok (.invokevirtual 420, 3) := by decide +kernel
theorem d_Mo_send_25 : decode M_Mo_send.2.1 25 = .ok (.ireturn, 1) := by decide +kernel
theorem d_Mo_send_26 : decode M_Mo_send.2.1 26 = .ok (.iload_n 2, 1) := by decide +kernel
theorem d_Mo_send_27 : decode M_Mo_send.2.1 27 = .ok (.iload_n 1, 1) := by decide +kernel
theorem d_Mo_send_28 : decode M_Mo_send.2.1 28 = .ok (.if_icmp .ne 7, 3) := by decide +kernel
theorem d_Mo_send_31 : decode M_Mo_send.2.1 31 = .ok (.iconst 0, 1) := by decide +kernel
theorem d_Mo_send_32 : decode M_Mo_send.2.1 32 = .ok (.goto 6, 3) := by decide +kernel
theorem d_Mo_send_35 : decode M_Mo_send.2.1 35 = .ok (.iload_n 2, 1) := by decide +kernel
theorem d_Mo_send_36 : decode M_Mo_send.2.1 36 = .ok (.iconst 1, 1) := by decide +kernel
theorem d_Mo_send_37 : decode M_Mo_send.2.1 37 = .ok (.iadd, 1) := by decide +kernel
theorem d_Mo_send_38 : decode M_Mo_send.2.1 38 = .ok (.istore_n 3, 1) := by decide +kernel
theorem d_Mo_send_39 : decode M_Mo_send.2.1 39 = .ok (.aload_n 0, 1) := by decide +kernel
theorem d_Mo_send_40 : decode M_Mo_send.2.1 40 = .ok (.getfield 32, 3) := by decide +kernel
theorem d_Mo_send_43 : decode M_Mo_send.2.1 43 = .ok (.bipush 6, 2) := by decide +kernel
theorem d_Mo_send_45 : decode M_Mo_send.2.1 45 = .ok (.iload_n 1, 1) := by decide +kernel
theorem d_Mo_send_46 : decode M_Mo_send.2.1 46 = .ok (.iadd, 1) := by decide +kernel
theorem d_Mo_send_47 : decode M_Mo_send.2.1 47 = .ok (.iaload, 1) := by decide +kernel
theorem d_Mo_send_48 : decode M_Mo_send.2.1 48 = .ok (.iload_n 3, 1) := by decide +kernel
theorem d_Mo_send_49 : decode M_Mo_send.2.1 49 = .ok (.if_icmp .ne 9, 3) := by decide +kernel
theorem d_Mo_send_52 : decode M_Mo_send.2.1 52 = .ok (.aload_n 0, 1) := by decide +kernel
theorem d_Mo_send_53 : decode M_Mo_send.2.1 53 = .ok (.iconst 5, 1) := by decide +kernel
theorem d_Mo_send_54 : decode M_Mo_send.2.1 54 = .ok (.invokevirtual 420, 3) := by decide +kernel
theorem d_Mo_send_57 : decode M_Mo_send.2.1 57 = .ok (.ireturn, 1) := by decide +kernel
theorem d_Mo_send_58 : decode M_Mo_send.2.1 58 = .ok (.aload_n 0, 1) := by decide +kernel
theorem d_Mo_send_59 : decode M_Mo_send.2.1 59 = .ok (.invokevirtual 414, 3) := by decide +kernel
theorem d_Mo_send_62 : decode M_Mo_send.2.1 62 = .ok (.aload_n 0, 1) := by decide +kernel
theorem d_Mo_send_63 : decode M_Mo_send.2.1 63 = .ok (.getfield 32, 3) := by decide +kernel
theorem d_Mo_send_66 : decode M_Mo_send.2.1 66 = .ok (.bipush 6, 2) := by decide +kernel
theorem d_Mo_send_68 : decode M_Mo_send.2.1 68 = .ok (.iload_n 1, 1) := by decide +kernel
theorem d_Mo_send_69 : decode M_Mo_send.2.1 69 = .ok (.iadd, 1) := by decide +kernel
theorem d_Mo_send_70 : decode M_Mo_send.2.1 70 = .ok (.iload_n 3, 1) := by decide +kernel
theorem d_Mo_send_71 : decode M_Mo_send.2.1 71 = .ok (.iastore, 1) := by decide +kernel
theorem d_Mo_send_72 : decode M_Mo_send.2.1 72 = .ok (.iconst 1, 1) := by decide +kernel
theorem d_Mo_send_73 : decode M_Mo_send.2.1 73 = .ok (.ireturn, 1) := by decide +kernel
theorem d_Mo_undo_0 : decode M_Mo_undo.2.1 0 = .ok (.aload_n 0, 1) := by decide +kernel
theorem d_Mo_undo_1 : decode M_Mo_undo.2.1 1 = .ok (.invokevirtual 154, 3) := by decide +kernel
theorem d_Mo_undo_4 : decode M_Mo_undo.2.1 4 = .ok (.aload_n 0, 1) := by decide +kernel
theorem d_Mo_undo_5 : decode M_Mo_undo.2.1 5 = .ok (.getfield 170, 3) := by decide +kernel
theorem d_Mo_undo_8 : decode M_Mo_undo.2.1 8 = .ok (.ifCond .ne 10, 3) := by decide +kernel
theorem d_Mo_undo_11 : decode M_Mo_undo.2.1 11 = .ok (.aload_n 0, 1) := by decide +kernel
theorem d_Mo_undo_12 : decode M_Mo_undo.2.1 12 = .ok (.bipush 6, 2) := by decide +kernel
theorem d_Mo_undo_14 : decode M_Mo_undo.2.1 14 = .ok (.invokevirtual 420, 3) := by decide +kernel
theorem d_Mo_undo_17 : decode M_Mo_undo.2.1 17 = .ok (.ireturn, 1) := by decide +kernel
theorem d_Mo_undo_18 : decode M_Mo_undo.2.1 18 = .ok (.aload_n 0, 1) := by decide +kernel
theorem d_Mo_undo_19 : decode M_Mo_undo.2.1 19 = .ok (.dup, 1) := by decide +kernel
theorem d_Mo_undo_20 : decode M_Mo_undo.2.1 20 = .ok (.getfield 170, 3) := by decide +kernel
theorem d_Mo_undo_23 : decode M_Mo_undo.2.1 23 = .ok (.iconst 1, 1) := by decide +kernel
theorem d_Mo_undo_24 : decode M_Mo_undo.2.1 24 = .ok (.isub, 1) := by decide +kernel
theorem d_Mo_undo_25 : decode M_Mo_undo.2.1 25 = .ok (.putfield 170, 3) := by decide +kernel
theorem d_Mo_undo_28 : decode M_Mo_undo.2.1 28 = .ok (.aload_n 0, 1) := by decide +kernel
theorem d_Mo_undo_29 : decode M_Mo_undo.2.1 29 = .ok (.getfield 35, 3) := by decide +kernel
theorem d_Mo_undo_32 : decode M_Mo_undo.2.1 32 = .ok (.bipush 14, 2) := by decide +kernel
theorem d_Mo_undo_34 : decode M_Mo_undo.2.1 34 = .ok (.aload_n 0, 1) := by decide +kernel
theorem d_Mo_undo_35 : decode M_Mo_undo.2.1 35 = .ok (.getfield 170, 3) := by decide +kernel
theorem d_Mo_undo_38 : decode M_Mo_undo.2.1 38 = .ok (.imul, 1) := by decide +kernel
theorem d_Mo_undo_39 : decode M_Mo_undo.2.1 39 = .ok (.aload_n 0, 1) := by decide +kernel
theorem d_Mo_undo_40 : decode M_Mo_undo.2.1 40 = .ok (.getfield 32, 3) := by decide +kernel
theorem d_Mo_undo_43 : decode M_Mo_undo.2.1 43 = .ok (.iconst 0, 1) := by decide +kernel
theorem d_Mo_undo_44 : decode M_Mo_undo.2.1 44 = .ok (.bipush 14, 2) := by decide +kernel
theorem d_Mo_undo_46 : decode M_Mo_undo.2.1 46 = .ok (.invokestatic 163, 3) := by decide +kernel
theorem d_Mo_undo_49 : decode M_Mo_undo.2.1 49 = .ok (.iconst 1, 1) := by decide +kernel
theorem d_Mo_undo_50 : decode M_Mo_undo.2.1 50 = .ok (.ireturn, 1) := by decide +kernel
set_option maxRecDepth 4000 in
theorem t_Mo_blow_45 {d : Nat} {I : Nat → Nat → Int32} {J : Nat → Nat → Int64} {R : Nat → Nat → Option Nat} {Q : Option Value → ow_H → Prop}  {v1 : Int32} {v3 : Int32} {v4 : Int64} {v6 : Int32} {v7 : Int32}  (hR : ow_RF R) (T : ((2 ≤ v7 → Q none (85, I, J, R)) ∧ (¬ 2 ≤ v7 → ((¬ v7 = 1 → ((¬ v7 = 1 → ((¬ (lg_cmp ((v4 / 100) * (Int32.toInt64 (100 - (I 73 0)))) 0) = 0 → (vp_in (6 + v1) 14 ∧ (((I 77 (6 + v1).toNatClampNeg) ≤ 0 → ((¬ v6 = 1 → (∀ (J5 : Nat → Nat → Int64), J5 = ow_u J 70 38 ((J 70 38) + ((v4 / 100) * (Int32.toInt64 (100 - (I 73 0))))) → ow_AW ow_Y0 (ow_Z Q) M_Mo_blow (d + 1) 0 0 45 [(0, .ref 70), (1, .int v1), (3, .int v3), (4, .long v4), (6, .int v6), (7, .int (v7 + 1))] [] (85, I, J5, R) 0 0)) ∧ (v6 = 1 → (∀ (J6 : Nat → Nat → Int64), J6 = ow_u J 70 37 ((J 70 37) + ((v4 / 100) * (Int32.toInt64 (100 - (I 73 0))))) → ow_AW ow_Y0 (ow_Z Q) M_Mo_blow (d + 1) 0 0 45 [(0, .ref 70), (1, .int v1), (3, .int v3), (4, .long v4), (6, .int v6), (7, .int (v7 + 1))] [] (85, I, J6, R) 0 0)))) ∧ (¬ (I 77 (6 + v1).toNatClampNeg) ≤ 0 → (vp_in (6 + v1) 14 ∧ (ow_AM M_Mo_blow d [.ref 70, .int ((I 77 (6 + v1).toNatClampNeg) - 1), .int v6, .int (v3 ||| ((1 : Int32) <<< (v1 &&& 31))), .long ((v4 / 100) * (Int32.toInt64 (100 - (I 73 0))))] (85, I, J, R) (fun r h' => ∃ (I7 : Nat → Nat → Int32) (J7 : Nat → Nat → Int64) (R7 : Nat → Nat → Option Nat), r = none ∧ h' = (85, I7, J7, R7) ∧ ow_RF R7 ∧ ow_AW ow_Y0 (ow_Z Q) M_Mo_blow (d + 1) 0 0 45 [(0, .ref 70), (1, .int v1), (3, .int v3), (4, .long v4), (6, .int v6), (7, .int (v7 + 1))] [] (85, I7, J7, R7) 0 0))))))) ∧ ((lg_cmp ((v4 / 100) * (Int32.toInt64 (100 - (I 73 0)))) 0) = 0 → ow_AW ow_Y0 (ow_Z Q) M_Mo_blow (d + 1) 0 0 45 [(0, .ref 70), (1, .int v1), (3, .int v3), (4, .long v4), (6, .int v6), (7, .int (v7 + 1))] [] (85, I, J, R) 0 0))) ∧ (v7 = 1 → ((¬ (lg_cmp ((v4 / 100) * (Int32.toInt64 (100 - (I 73 0)))) 0) = 0 → (vp_in (6 + v1) 14 ∧ (((I 77 (6 + v1).toNatClampNeg) ≤ 0 → ((¬ (1 - v6) = 1 → (∀ (J8 : Nat → Nat → Int64), J8 = ow_u J 70 38 ((J 70 38) + ((v4 / 100) * (Int32.toInt64 (100 - (I 73 0))))) → ow_AW ow_Y0 (ow_Z Q) M_Mo_blow (d + 1) 0 0 45 [(0, .ref 70), (1, .int v1), (3, .int v3), (4, .long v4), (6, .int v6), (7, .int (v7 + 1))] [] (85, I, J8, R) 0 0)) ∧ ((1 - v6) = 1 → (∀ (J9 : Nat → Nat → Int64), J9 = ow_u J 70 37 ((J 70 37) + ((v4 / 100) * (Int32.toInt64 (100 - (I 73 0))))) → ow_AW ow_Y0 (ow_Z Q) M_Mo_blow (d + 1) 0 0 45 [(0, .ref 70), (1, .int v1), (3, .int v3), (4, .long v4), (6, .int v6), (7, .int (v7 + 1))] [] (85, I, J9, R) 0 0)))) ∧ (¬ (I 77 (6 + v1).toNatClampNeg) ≤ 0 → (vp_in (6 + v1) 14 ∧ (ow_AM M_Mo_blow d [.ref 70, .int ((I 77 (6 + v1).toNatClampNeg) - 1), .int (1 - v6), .int (v3 ||| ((1 : Int32) <<< (v1 &&& 31))), .long ((v4 / 100) * (Int32.toInt64 (100 - (I 73 0))))] (85, I, J, R) (fun r h' => ∃ (I10 : Nat → Nat → Int32) (J10 : Nat → Nat → Int64) (R10 : Nat → Nat → Option Nat), r = none ∧ h' = (85, I10, J10, R10) ∧ ow_RF R10 ∧ ow_AW ow_Y0 (ow_Z Q) M_Mo_blow (d + 1) 0 0 45 [(0, .ref 70), (1, .int v1), (3, .int v3), (4, .long v4), (6, .int v6), (7, .int (v7 + 1))] [] (85, I10, J10, R10) 0 0))))))) ∧ ((lg_cmp ((v4 / 100) * (Int32.toInt64 (100 - (I 73 0)))) 0) = 0 → ow_AW ow_Y0 (ow_Z Q) M_Mo_blow (d + 1) 0 0 45 [(0, .ref 70), (1, .int v1), (3, .int v3), (4, .long v4), (6, .int v6), (7, .int (v7 + 1))] [] (85, I, J, R) 0 0))))) ∧ (v7 = 1 → ((¬ v7 = 1 → ((¬ (lg_cmp ((v4 / 100) * (Int32.toInt64 (I 73 0))) 0) = 0 → (vp_in (6 + v1) 14 ∧ (((I 77 (6 + v1).toNatClampNeg) ≤ 0 → ((¬ v6 = 1 → (∀ (J11 : Nat → Nat → Int64), J11 = ow_u J 70 38 ((J 70 38) + ((v4 / 100) * (Int32.toInt64 (I 73 0)))) → ow_AW ow_Y0 (ow_Z Q) M_Mo_blow (d + 1) 0 0 45 [(0, .ref 70), (1, .int v1), (3, .int v3), (4, .long v4), (6, .int v6), (7, .int (v7 + 1))] [] (85, I, J11, R) 0 0)) ∧ (v6 = 1 → (∀ (J12 : Nat → Nat → Int64), J12 = ow_u J 70 37 ((J 70 37) + ((v4 / 100) * (Int32.toInt64 (I 73 0)))) → ow_AW ow_Y0 (ow_Z Q) M_Mo_blow (d + 1) 0 0 45 [(0, .ref 70), (1, .int v1), (3, .int v3), (4, .long v4), (6, .int v6), (7, .int (v7 + 1))] [] (85, I, J12, R) 0 0)))) ∧ (¬ (I 77 (6 + v1).toNatClampNeg) ≤ 0 → (vp_in (6 + v1) 14 ∧ (ow_AM M_Mo_blow d [.ref 70, .int ((I 77 (6 + v1).toNatClampNeg) - 1), .int v6, .int (v3 ||| ((1 : Int32) <<< (v1 &&& 31))), .long ((v4 / 100) * (Int32.toInt64 (I 73 0)))] (85, I, J, R) (fun r h' => ∃ (I13 : Nat → Nat → Int32) (J13 : Nat → Nat → Int64) (R13 : Nat → Nat → Option Nat), r = none ∧ h' = (85, I13, J13, R13) ∧ ow_RF R13 ∧ ow_AW ow_Y0 (ow_Z Q) M_Mo_blow (d + 1) 0 0 45 [(0, .ref 70), (1, .int v1), (3, .int v3), (4, .long v4), (6, .int v6), (7, .int (v7 + 1))] [] (85, I13, J13, R13) 0 0))))))) ∧ ((lg_cmp ((v4 / 100) * (Int32.toInt64 (I 73 0))) 0) = 0 → ow_AW ow_Y0 (ow_Z Q) M_Mo_blow (d + 1) 0 0 45 [(0, .ref 70), (1, .int v1), (3, .int v3), (4, .long v4), (6, .int v6), (7, .int (v7 + 1))] [] (85, I, J, R) 0 0))) ∧ (v7 = 1 → ((¬ (lg_cmp ((v4 / 100) * (Int32.toInt64 (I 73 0))) 0) = 0 → (vp_in (6 + v1) 14 ∧ (((I 77 (6 + v1).toNatClampNeg) ≤ 0 → ((¬ (1 - v6) = 1 → (∀ (J14 : Nat → Nat → Int64), J14 = ow_u J 70 38 ((J 70 38) + ((v4 / 100) * (Int32.toInt64 (I 73 0)))) → ow_AW ow_Y0 (ow_Z Q) M_Mo_blow (d + 1) 0 0 45 [(0, .ref 70), (1, .int v1), (3, .int v3), (4, .long v4), (6, .int v6), (7, .int (v7 + 1))] [] (85, I, J14, R) 0 0)) ∧ ((1 - v6) = 1 → (∀ (J15 : Nat → Nat → Int64), J15 = ow_u J 70 37 ((J 70 37) + ((v4 / 100) * (Int32.toInt64 (I 73 0)))) → ow_AW ow_Y0 (ow_Z Q) M_Mo_blow (d + 1) 0 0 45 [(0, .ref 70), (1, .int v1), (3, .int v3), (4, .long v4), (6, .int v6), (7, .int (v7 + 1))] [] (85, I, J15, R) 0 0)))) ∧ (¬ (I 77 (6 + v1).toNatClampNeg) ≤ 0 → (vp_in (6 + v1) 14 ∧ (ow_AM M_Mo_blow d [.ref 70, .int ((I 77 (6 + v1).toNatClampNeg) - 1), .int (1 - v6), .int (v3 ||| ((1 : Int32) <<< (v1 &&& 31))), .long ((v4 / 100) * (Int32.toInt64 (I 73 0)))] (85, I, J, R) (fun r h' => ∃ (I16 : Nat → Nat → Int32) (J16 : Nat → Nat → Int64) (R16 : Nat → Nat → Option Nat), r = none ∧ h' = (85, I16, J16, R16) ∧ ow_RF R16 ∧ ow_AW ow_Y0 (ow_Z Q) M_Mo_blow (d + 1) 0 0 45 [(0, .ref 70), (1, .int v1), (3, .int v3), (4, .long v4), (6, .int v6), (7, .int (v7 + 1))] [] (85, I16, J16, R16) 0 0))))))) ∧ ((lg_cmp ((v4 / 100) * (Int32.toInt64 (I 73 0))) 0) = 0 → ow_AW ow_Y0 (ow_Z Q) M_Mo_blow (d + 1) 0 0 45 [(0, .ref 70), (1, .int v1), (3, .int v3), (4, .long v4), (6, .int v6), (7, .int (v7 + 1))] [] (85, I, J, R) 0 0))))))))) : ow_AW ow_Y0 (ow_Z Q) M_Mo_blow (d + 1) 0 0 45 [(0, .ref 70), (1, .int v1), (3, .int v3), (4, .long v4), (6, .int v6), (7, .int v7)] [] (85, I, J, R) 0 0 := by
  refine ow_iload 5 rfl d_Mo_blow_45 ?_
  refine ow_iconst (v := 2) (by decide) d_Mo_blow_47 ?_
  refine ow_icmp_ge (tgt := 188) d_Mo_blow_48 (by decide) (fun c => ?_) (fun c => ?_)
  · replace T := T.1 c
    exact ow_vret d_Mo_blow_188 rfl T
  · replace T := T.2 c
    refine ow_lload 3 rfl d_Mo_blow_51 ?_
    refine ow_ldc2 (v := 100) d_Mo_blow_53 k_Mo_388 ?_
    refine ow_ldiv (by decide) d_Mo_blow_56 ?_
    refine ow_iload 5 rfl d_Mo_blow_57 ?_
    refine ow_iconst (v := 1) (by decide) d_Mo_blow_59 ?_
    refine ow_icmp_ne (tgt := 72) d_Mo_blow_60 (by decide) (fun c => ?_) (fun c => ?_)
    · replace T := T.1 c
      refine ow_bipush (v := 100) (by decide) d_Mo_blow_72 ?_
      refine ow_aload_n 0 rfl d_Mo_blow_74 ?_
      refine ow_gR (a := 73) 184 d_Mo_blow_75 rfl rfl (by decide) rfl ⟨rfl, hR 70 15 (by decide)⟩ ?_
      refine ow_iconst (v := 0) (by decide) d_Mo_blow_78 ?_
      refine ow_hiaload d_Mo_blow_79 (by decide) rfl rfl (show vp_in (0 : Int32) 146 by unfold vp_in; decide) ?_
      show ow_AW ow_Y0 (ow_Z Q) M_Mo_blow (d + 1) 0 0 80 [(0, .ref 70), (1, .int v1), (3, .int v3), (4, .long v4), (6, .int v6), (7, .int v7)] [.int (I 73 0), .int 100, .long (v4 / 100)] (85, I, J, R) 0 0
      refine ow_isub d_Mo_blow_80 ?_
      refine ow_i2l d_Mo_blow_81 ?_
      refine ow_lmul d_Mo_blow_82 ?_
      refine ow_lstore (ls2 := [(8, .long ((v4 / 100) * (Int32.toInt64 (100 - (I 73 0))))), (0, .ref 70), (1, .int v1), (3, .int v3), (4, .long v4), (6, .int v6), (7, .int v7)]) d_Mo_blow_83 (by decide) rfl ?_
      refine ow_iload 6 rfl d_Mo_blow_85 ?_
      refine ow_iconst (v := 1) (by decide) d_Mo_blow_87 ?_
      refine ow_icmp_ne (tgt := 98) d_Mo_blow_88 (by decide) (fun c => ?_) (fun c => ?_)
      · replace T := T.1 c
        refine ow_iload 5 rfl d_Mo_blow_98 ?_
        refine ow_istore (ls2 := [(10, .int v6), (8, .long ((v4 / 100) * (Int32.toInt64 (100 - (I 73 0))))), (0, .ref 70), (1, .int v1), (3, .int v3), (4, .long v4), (6, .int v6), (7, .int v7)]) d_Mo_blow_100 (by decide) rfl ?_
        refine ow_lload 1 rfl d_Mo_blow_102 ?_
        refine ow_lconst (v := 0) (by decide) d_Mo_blow_104 ?_
        refine ow_lcmp d_Mo_blow_105 ?_
        refine ow_if_ne (tgt := 112) d_Mo_blow_106 (by decide) (fun c => ?_) (fun c => ?_)
        · replace T := T.1 c
          refine ow_aload_n 2 rfl d_Mo_blow_112 ?_
          refine ow_gR (a := 77) 188 d_Mo_blow_113 rfl rfl (by decide) rfl ⟨rfl, hR 70 19 (by decide)⟩ ?_
          refine ow_bipush (v := 6) (by decide) d_Mo_blow_116 ?_
          refine ow_iload_n 3 rfl d_Mo_blow_118 ?_
          refine ow_iadd d_Mo_blow_119 ?_
          obtain ⟨cI, T⟩ := T
          refine ow_hiaload d_Mo_blow_120 (by decide) rfl rfl cI ?_
          refine ow_if_le (tgt := 151) d_Mo_blow_121 (by decide) (fun c => ?_) (fun c => ?_)
          · replace T := T.1 c
            refine ow_iload 0 rfl d_Mo_blow_151 ?_
            refine ow_iconst (v := 1) (by decide) d_Mo_blow_153 ?_
            refine ow_icmp_ne (tgt := 171) d_Mo_blow_154 (by decide) (fun c => ?_) (fun c => ?_)
            · replace T := T.1 c
              refine ow_aload_n 2 rfl d_Mo_blow_171 ?_
              refine ow_dup rfl d_Mo_blow_172 ?_
              refine ow_gJ 207 d_Mo_blow_173 rfl rfl (by decide) rfl rfl ?_
              refine ow_lload 1 rfl d_Mo_blow_176 ?_
              refine ow_ladd d_Mo_blow_178 ?_
              refine ow_pJ 207 d_Mo_blow_179 rfl rfl (by decide) rfl rfl rfl ?_
              obtain ⟨J5, eJ5⟩ : ∃ uu, uu = ow_u J 70 38 ((J 70 38) + ((v4 / 100) * (Int32.toInt64 (100 - (I 73 0))))) := ⟨_, rfl⟩
              replace T := T J5 eJ5
              rw [← eJ5]
              refine ow_iinc 7 (v := (v7 + 1)) (ls2 := [(7, .int (v7 + 1)), (10, .int v6), (8, .long ((v4 / 100) * (Int32.toInt64 (100 - (I 73 0))))), (0, .ref 70), (1, .int v1), (3, .int v3), (4, .long v4), (6, .int v6)]) d_Mo_blow_182 rfl rfl (by decide) rfl ?_
              refine ow_goto (tgt := 45) d_Mo_blow_185 (by decide) ?_
              refine ow_sub [3, 4, 5, 6, 7, 0] rfl ?_
              exact T
            · replace T := T.2 c
              refine ow_aload_n 2 rfl d_Mo_blow_157 ?_
              refine ow_dup rfl d_Mo_blow_158 ?_
              refine ow_gJ 206 d_Mo_blow_159 rfl rfl (by decide) rfl rfl ?_
              refine ow_lload 1 rfl d_Mo_blow_162 ?_
              refine ow_ladd d_Mo_blow_164 ?_
              refine ow_pJ 206 d_Mo_blow_165 rfl rfl (by decide) rfl rfl rfl ?_
              obtain ⟨J6, eJ6⟩ : ∃ uu, uu = ow_u J 70 37 ((J 70 37) + ((v4 / 100) * (Int32.toInt64 (100 - (I 73 0))))) := ⟨_, rfl⟩
              replace T := T J6 eJ6
              rw [← eJ6]
              refine ow_goto (tgt := 182) d_Mo_blow_168 (by decide) ?_
              refine ow_iinc 7 (v := (v7 + 1)) (ls2 := [(7, .int (v7 + 1)), (10, .int v6), (8, .long ((v4 / 100) * (Int32.toInt64 (100 - (I 73 0))))), (0, .ref 70), (1, .int v1), (3, .int v3), (4, .long v4), (6, .int v6)]) d_Mo_blow_182 rfl rfl (by decide) rfl ?_
              refine ow_goto (tgt := 45) d_Mo_blow_185 (by decide) ?_
              refine ow_sub [3, 4, 5, 6, 7, 0] rfl ?_
              exact T
          · replace T := T.2 c
            refine ow_aload_n 2 rfl d_Mo_blow_124 ?_
            refine ow_aload_n 2 rfl d_Mo_blow_125 ?_
            refine ow_gR (a := 77) 188 d_Mo_blow_126 rfl rfl (by decide) rfl ⟨rfl, hR 70 19 (by decide)⟩ ?_
            refine ow_bipush (v := 6) (by decide) d_Mo_blow_129 ?_
            refine ow_iload_n 3 rfl d_Mo_blow_131 ?_
            refine ow_iadd d_Mo_blow_132 ?_
            obtain ⟨cI, T⟩ := T
            refine ow_hiaload d_Mo_blow_133 (by decide) rfl rfl cI ?_
            refine ow_iconst (v := 1) (by decide) d_Mo_blow_134 ?_
            refine ow_isub d_Mo_blow_135 ?_
            refine ow_iload 0 rfl d_Mo_blow_136 ?_
            refine ow_iload_n 4 rfl d_Mo_blow_138 ?_
            refine ow_iconst (v := 1) (by decide) d_Mo_blow_139 ?_
            refine ow_iload_n 3 rfl d_Mo_blow_140 ?_
            refine ow_ishl d_Mo_blow_141 ?_
            refine ow_ior d_Mo_blow_142 ?_
            refine ow_lload 1 rfl d_Mo_blow_143 ?_
            refine ow_callV (b := 70) (cq := 12) (As := [.int ((I 77 (6 + v1).toNatClampNeg) - 1), .int v6, .int (v3 ||| ((1 : Int32) <<< (v1 &&& 31))), .long ((v4 / 100) * (Int32.toInt64 (100 - (I 73 0))))]) (rest := []) (d2 := d) d_Mo_blow_145 l_Mo_390 v_Mo_blow (show 70 < 85 by decide) rfl (by decide) rfl (Nat.le_of_ble_eq_true rfl) (Nat.le_refl _) ⟨Nat.le_refl _, Nat.le_refl _⟩ (ow_mono T ?_)
            rintro r h' ⟨I7, J7, R7, rfl, rfl, hR7, T⟩
            show ow_AW ow_Y0 (ow_Z Q) M_Mo_blow (d + 1) 0 0 148 [(10, .int v6), (8, .long ((v4 / 100) * (Int32.toInt64 (100 - (I 73 0))))), (0, .ref 70), (1, .int v1), (3, .int v3), (4, .long v4), (6, .int v6), (7, .int v7)] [] (85, I7, J7, R7) 0 0
            refine ow_goto (tgt := 182) d_Mo_blow_148 (by decide) ?_
            refine ow_iinc 7 (v := (v7 + 1)) (ls2 := [(7, .int (v7 + 1)), (10, .int v6), (8, .long ((v4 / 100) * (Int32.toInt64 (100 - (I 73 0))))), (0, .ref 70), (1, .int v1), (3, .int v3), (4, .long v4), (6, .int v6)]) d_Mo_blow_182 rfl rfl (by decide) rfl ?_
            refine ow_goto (tgt := 45) d_Mo_blow_185 (by decide) ?_
            refine ow_sub [3, 4, 5, 6, 7, 0] rfl ?_
            exact T
        · replace T := T.2 c
          refine ow_goto (tgt := 182) d_Mo_blow_109 (by decide) ?_
          refine ow_iinc 7 (v := (v7 + 1)) (ls2 := [(7, .int (v7 + 1)), (10, .int v6), (8, .long ((v4 / 100) * (Int32.toInt64 (100 - (I 73 0))))), (0, .ref 70), (1, .int v1), (3, .int v3), (4, .long v4), (6, .int v6)]) d_Mo_blow_182 rfl rfl (by decide) rfl ?_
          refine ow_goto (tgt := 45) d_Mo_blow_185 (by decide) ?_
          refine ow_sub [3, 4, 5, 6, 7, 0] rfl ?_
          exact T
      · replace T := T.2 c
        refine ow_iconst (v := 1) (by decide) d_Mo_blow_91 ?_
        refine ow_iload 5 rfl d_Mo_blow_92 ?_
        refine ow_isub d_Mo_blow_94 ?_
        refine ow_goto (tgt := 100) d_Mo_blow_95 (by decide) ?_
        refine ow_istore (ls2 := [(10, .int (1 - v6)), (8, .long ((v4 / 100) * (Int32.toInt64 (100 - (I 73 0))))), (0, .ref 70), (1, .int v1), (3, .int v3), (4, .long v4), (6, .int v6), (7, .int v7)]) d_Mo_blow_100 (by decide) rfl ?_
        refine ow_lload 1 rfl d_Mo_blow_102 ?_
        refine ow_lconst (v := 0) (by decide) d_Mo_blow_104 ?_
        refine ow_lcmp d_Mo_blow_105 ?_
        refine ow_if_ne (tgt := 112) d_Mo_blow_106 (by decide) (fun c => ?_) (fun c => ?_)
        · replace T := T.1 c
          refine ow_aload_n 2 rfl d_Mo_blow_112 ?_
          refine ow_gR (a := 77) 188 d_Mo_blow_113 rfl rfl (by decide) rfl ⟨rfl, hR 70 19 (by decide)⟩ ?_
          refine ow_bipush (v := 6) (by decide) d_Mo_blow_116 ?_
          refine ow_iload_n 3 rfl d_Mo_blow_118 ?_
          refine ow_iadd d_Mo_blow_119 ?_
          obtain ⟨cI, T⟩ := T
          refine ow_hiaload d_Mo_blow_120 (by decide) rfl rfl cI ?_
          refine ow_if_le (tgt := 151) d_Mo_blow_121 (by decide) (fun c => ?_) (fun c => ?_)
          · replace T := T.1 c
            refine ow_iload 0 rfl d_Mo_blow_151 ?_
            refine ow_iconst (v := 1) (by decide) d_Mo_blow_153 ?_
            refine ow_icmp_ne (tgt := 171) d_Mo_blow_154 (by decide) (fun c => ?_) (fun c => ?_)
            · replace T := T.1 c
              refine ow_aload_n 2 rfl d_Mo_blow_171 ?_
              refine ow_dup rfl d_Mo_blow_172 ?_
              refine ow_gJ 207 d_Mo_blow_173 rfl rfl (by decide) rfl rfl ?_
              refine ow_lload 1 rfl d_Mo_blow_176 ?_
              refine ow_ladd d_Mo_blow_178 ?_
              refine ow_pJ 207 d_Mo_blow_179 rfl rfl (by decide) rfl rfl rfl ?_
              obtain ⟨J8, eJ8⟩ : ∃ uu, uu = ow_u J 70 38 ((J 70 38) + ((v4 / 100) * (Int32.toInt64 (100 - (I 73 0))))) := ⟨_, rfl⟩
              replace T := T J8 eJ8
              rw [← eJ8]
              refine ow_iinc 7 (v := (v7 + 1)) (ls2 := [(7, .int (v7 + 1)), (10, .int (1 - v6)), (8, .long ((v4 / 100) * (Int32.toInt64 (100 - (I 73 0))))), (0, .ref 70), (1, .int v1), (3, .int v3), (4, .long v4), (6, .int v6)]) d_Mo_blow_182 rfl rfl (by decide) rfl ?_
              refine ow_goto (tgt := 45) d_Mo_blow_185 (by decide) ?_
              refine ow_sub [3, 4, 5, 6, 7, 0] rfl ?_
              exact T
            · replace T := T.2 c
              refine ow_aload_n 2 rfl d_Mo_blow_157 ?_
              refine ow_dup rfl d_Mo_blow_158 ?_
              refine ow_gJ 206 d_Mo_blow_159 rfl rfl (by decide) rfl rfl ?_
              refine ow_lload 1 rfl d_Mo_blow_162 ?_
              refine ow_ladd d_Mo_blow_164 ?_
              refine ow_pJ 206 d_Mo_blow_165 rfl rfl (by decide) rfl rfl rfl ?_
              obtain ⟨J9, eJ9⟩ : ∃ uu, uu = ow_u J 70 37 ((J 70 37) + ((v4 / 100) * (Int32.toInt64 (100 - (I 73 0))))) := ⟨_, rfl⟩
              replace T := T J9 eJ9
              rw [← eJ9]
              refine ow_goto (tgt := 182) d_Mo_blow_168 (by decide) ?_
              refine ow_iinc 7 (v := (v7 + 1)) (ls2 := [(7, .int (v7 + 1)), (10, .int (1 - v6)), (8, .long ((v4 / 100) * (Int32.toInt64 (100 - (I 73 0))))), (0, .ref 70), (1, .int v1), (3, .int v3), (4, .long v4), (6, .int v6)]) d_Mo_blow_182 rfl rfl (by decide) rfl ?_
              refine ow_goto (tgt := 45) d_Mo_blow_185 (by decide) ?_
              refine ow_sub [3, 4, 5, 6, 7, 0] rfl ?_
              exact T
          · replace T := T.2 c
            refine ow_aload_n 2 rfl d_Mo_blow_124 ?_
            refine ow_aload_n 2 rfl d_Mo_blow_125 ?_
            refine ow_gR (a := 77) 188 d_Mo_blow_126 rfl rfl (by decide) rfl ⟨rfl, hR 70 19 (by decide)⟩ ?_
            refine ow_bipush (v := 6) (by decide) d_Mo_blow_129 ?_
            refine ow_iload_n 3 rfl d_Mo_blow_131 ?_
            refine ow_iadd d_Mo_blow_132 ?_
            obtain ⟨cI, T⟩ := T
            refine ow_hiaload d_Mo_blow_133 (by decide) rfl rfl cI ?_
            refine ow_iconst (v := 1) (by decide) d_Mo_blow_134 ?_
            refine ow_isub d_Mo_blow_135 ?_
            refine ow_iload 0 rfl d_Mo_blow_136 ?_
            refine ow_iload_n 4 rfl d_Mo_blow_138 ?_
            refine ow_iconst (v := 1) (by decide) d_Mo_blow_139 ?_
            refine ow_iload_n 3 rfl d_Mo_blow_140 ?_
            refine ow_ishl d_Mo_blow_141 ?_
            refine ow_ior d_Mo_blow_142 ?_
            refine ow_lload 1 rfl d_Mo_blow_143 ?_
            refine ow_callV (b := 70) (cq := 12) (As := [.int ((I 77 (6 + v1).toNatClampNeg) - 1), .int (1 - v6), .int (v3 ||| ((1 : Int32) <<< (v1 &&& 31))), .long ((v4 / 100) * (Int32.toInt64 (100 - (I 73 0))))]) (rest := []) (d2 := d) d_Mo_blow_145 l_Mo_390 v_Mo_blow (show 70 < 85 by decide) rfl (by decide) rfl (Nat.le_of_ble_eq_true rfl) (Nat.le_refl _) ⟨Nat.le_refl _, Nat.le_refl _⟩ (ow_mono T ?_)
            rintro r h' ⟨I10, J10, R10, rfl, rfl, hR10, T⟩
            show ow_AW ow_Y0 (ow_Z Q) M_Mo_blow (d + 1) 0 0 148 [(10, .int (1 - v6)), (8, .long ((v4 / 100) * (Int32.toInt64 (100 - (I 73 0))))), (0, .ref 70), (1, .int v1), (3, .int v3), (4, .long v4), (6, .int v6), (7, .int v7)] [] (85, I10, J10, R10) 0 0
            refine ow_goto (tgt := 182) d_Mo_blow_148 (by decide) ?_
            refine ow_iinc 7 (v := (v7 + 1)) (ls2 := [(7, .int (v7 + 1)), (10, .int (1 - v6)), (8, .long ((v4 / 100) * (Int32.toInt64 (100 - (I 73 0))))), (0, .ref 70), (1, .int v1), (3, .int v3), (4, .long v4), (6, .int v6)]) d_Mo_blow_182 rfl rfl (by decide) rfl ?_
            refine ow_goto (tgt := 45) d_Mo_blow_185 (by decide) ?_
            refine ow_sub [3, 4, 5, 6, 7, 0] rfl ?_
            exact T
        · replace T := T.2 c
          refine ow_goto (tgt := 182) d_Mo_blow_109 (by decide) ?_
          refine ow_iinc 7 (v := (v7 + 1)) (ls2 := [(7, .int (v7 + 1)), (10, .int (1 - v6)), (8, .long ((v4 / 100) * (Int32.toInt64 (100 - (I 73 0))))), (0, .ref 70), (1, .int v1), (3, .int v3), (4, .long v4), (6, .int v6)]) d_Mo_blow_182 rfl rfl (by decide) rfl ?_
          refine ow_goto (tgt := 45) d_Mo_blow_185 (by decide) ?_
          refine ow_sub [3, 4, 5, 6, 7, 0] rfl ?_
          exact T
    · replace T := T.2 c
      refine ow_aload_n 0 rfl d_Mo_blow_63 ?_
      refine ow_gR (a := 73) 184 d_Mo_blow_64 rfl rfl (by decide) rfl ⟨rfl, hR 70 15 (by decide)⟩ ?_
      refine ow_iconst (v := 0) (by decide) d_Mo_blow_67 ?_
      refine ow_hiaload d_Mo_blow_68 (by decide) rfl rfl (show vp_in (0 : Int32) 146 by unfold vp_in; decide) ?_
      show ow_AW ow_Y0 (ow_Z Q) M_Mo_blow (d + 1) 0 0 69 [(0, .ref 70), (1, .int v1), (3, .int v3), (4, .long v4), (6, .int v6), (7, .int v7)] [.int (I 73 0), .long (v4 / 100)] (85, I, J, R) 0 0
      refine ow_goto (tgt := 81) d_Mo_blow_69 (by decide) ?_
      refine ow_i2l d_Mo_blow_81 ?_
      refine ow_lmul d_Mo_blow_82 ?_
      refine ow_lstore (ls2 := [(8, .long ((v4 / 100) * (Int32.toInt64 (I 73 0)))), (0, .ref 70), (1, .int v1), (3, .int v3), (4, .long v4), (6, .int v6), (7, .int v7)]) d_Mo_blow_83 (by decide) rfl ?_
      refine ow_iload 6 rfl d_Mo_blow_85 ?_
      refine ow_iconst (v := 1) (by decide) d_Mo_blow_87 ?_
      refine ow_icmp_ne (tgt := 98) d_Mo_blow_88 (by decide) (fun c => ?_) (fun c => ?_)
      · replace T := T.1 c
        refine ow_iload 5 rfl d_Mo_blow_98 ?_
        refine ow_istore (ls2 := [(10, .int v6), (8, .long ((v4 / 100) * (Int32.toInt64 (I 73 0)))), (0, .ref 70), (1, .int v1), (3, .int v3), (4, .long v4), (6, .int v6), (7, .int v7)]) d_Mo_blow_100 (by decide) rfl ?_
        refine ow_lload 1 rfl d_Mo_blow_102 ?_
        refine ow_lconst (v := 0) (by decide) d_Mo_blow_104 ?_
        refine ow_lcmp d_Mo_blow_105 ?_
        refine ow_if_ne (tgt := 112) d_Mo_blow_106 (by decide) (fun c => ?_) (fun c => ?_)
        · replace T := T.1 c
          refine ow_aload_n 2 rfl d_Mo_blow_112 ?_
          refine ow_gR (a := 77) 188 d_Mo_blow_113 rfl rfl (by decide) rfl ⟨rfl, hR 70 19 (by decide)⟩ ?_
          refine ow_bipush (v := 6) (by decide) d_Mo_blow_116 ?_
          refine ow_iload_n 3 rfl d_Mo_blow_118 ?_
          refine ow_iadd d_Mo_blow_119 ?_
          obtain ⟨cI, T⟩ := T
          refine ow_hiaload d_Mo_blow_120 (by decide) rfl rfl cI ?_
          refine ow_if_le (tgt := 151) d_Mo_blow_121 (by decide) (fun c => ?_) (fun c => ?_)
          · replace T := T.1 c
            refine ow_iload 0 rfl d_Mo_blow_151 ?_
            refine ow_iconst (v := 1) (by decide) d_Mo_blow_153 ?_
            refine ow_icmp_ne (tgt := 171) d_Mo_blow_154 (by decide) (fun c => ?_) (fun c => ?_)
            · replace T := T.1 c
              refine ow_aload_n 2 rfl d_Mo_blow_171 ?_
              refine ow_dup rfl d_Mo_blow_172 ?_
              refine ow_gJ 207 d_Mo_blow_173 rfl rfl (by decide) rfl rfl ?_
              refine ow_lload 1 rfl d_Mo_blow_176 ?_
              refine ow_ladd d_Mo_blow_178 ?_
              refine ow_pJ 207 d_Mo_blow_179 rfl rfl (by decide) rfl rfl rfl ?_
              obtain ⟨J11, eJ11⟩ : ∃ uu, uu = ow_u J 70 38 ((J 70 38) + ((v4 / 100) * (Int32.toInt64 (I 73 0)))) := ⟨_, rfl⟩
              replace T := T J11 eJ11
              rw [← eJ11]
              refine ow_iinc 7 (v := (v7 + 1)) (ls2 := [(7, .int (v7 + 1)), (10, .int v6), (8, .long ((v4 / 100) * (Int32.toInt64 (I 73 0)))), (0, .ref 70), (1, .int v1), (3, .int v3), (4, .long v4), (6, .int v6)]) d_Mo_blow_182 rfl rfl (by decide) rfl ?_
              refine ow_goto (tgt := 45) d_Mo_blow_185 (by decide) ?_
              refine ow_sub [3, 4, 5, 6, 7, 0] rfl ?_
              exact T
            · replace T := T.2 c
              refine ow_aload_n 2 rfl d_Mo_blow_157 ?_
              refine ow_dup rfl d_Mo_blow_158 ?_
              refine ow_gJ 206 d_Mo_blow_159 rfl rfl (by decide) rfl rfl ?_
              refine ow_lload 1 rfl d_Mo_blow_162 ?_
              refine ow_ladd d_Mo_blow_164 ?_
              refine ow_pJ 206 d_Mo_blow_165 rfl rfl (by decide) rfl rfl rfl ?_
              obtain ⟨J12, eJ12⟩ : ∃ uu, uu = ow_u J 70 37 ((J 70 37) + ((v4 / 100) * (Int32.toInt64 (I 73 0)))) := ⟨_, rfl⟩
              replace T := T J12 eJ12
              rw [← eJ12]
              refine ow_goto (tgt := 182) d_Mo_blow_168 (by decide) ?_
              refine ow_iinc 7 (v := (v7 + 1)) (ls2 := [(7, .int (v7 + 1)), (10, .int v6), (8, .long ((v4 / 100) * (Int32.toInt64 (I 73 0)))), (0, .ref 70), (1, .int v1), (3, .int v3), (4, .long v4), (6, .int v6)]) d_Mo_blow_182 rfl rfl (by decide) rfl ?_
              refine ow_goto (tgt := 45) d_Mo_blow_185 (by decide) ?_
              refine ow_sub [3, 4, 5, 6, 7, 0] rfl ?_
              exact T
          · replace T := T.2 c
            refine ow_aload_n 2 rfl d_Mo_blow_124 ?_
            refine ow_aload_n 2 rfl d_Mo_blow_125 ?_
            refine ow_gR (a := 77) 188 d_Mo_blow_126 rfl rfl (by decide) rfl ⟨rfl, hR 70 19 (by decide)⟩ ?_
            refine ow_bipush (v := 6) (by decide) d_Mo_blow_129 ?_
            refine ow_iload_n 3 rfl d_Mo_blow_131 ?_
            refine ow_iadd d_Mo_blow_132 ?_
            obtain ⟨cI, T⟩ := T
            refine ow_hiaload d_Mo_blow_133 (by decide) rfl rfl cI ?_
            refine ow_iconst (v := 1) (by decide) d_Mo_blow_134 ?_
            refine ow_isub d_Mo_blow_135 ?_
            refine ow_iload 0 rfl d_Mo_blow_136 ?_
            refine ow_iload_n 4 rfl d_Mo_blow_138 ?_
            refine ow_iconst (v := 1) (by decide) d_Mo_blow_139 ?_
            refine ow_iload_n 3 rfl d_Mo_blow_140 ?_
            refine ow_ishl d_Mo_blow_141 ?_
            refine ow_ior d_Mo_blow_142 ?_
            refine ow_lload 1 rfl d_Mo_blow_143 ?_
            refine ow_callV (b := 70) (cq := 12) (As := [.int ((I 77 (6 + v1).toNatClampNeg) - 1), .int v6, .int (v3 ||| ((1 : Int32) <<< (v1 &&& 31))), .long ((v4 / 100) * (Int32.toInt64 (I 73 0)))]) (rest := []) (d2 := d) d_Mo_blow_145 l_Mo_390 v_Mo_blow (show 70 < 85 by decide) rfl (by decide) rfl (Nat.le_of_ble_eq_true rfl) (Nat.le_refl _) ⟨Nat.le_refl _, Nat.le_refl _⟩ (ow_mono T ?_)
            rintro r h' ⟨I13, J13, R13, rfl, rfl, hR13, T⟩
            show ow_AW ow_Y0 (ow_Z Q) M_Mo_blow (d + 1) 0 0 148 [(10, .int v6), (8, .long ((v4 / 100) * (Int32.toInt64 (I 73 0)))), (0, .ref 70), (1, .int v1), (3, .int v3), (4, .long v4), (6, .int v6), (7, .int v7)] [] (85, I13, J13, R13) 0 0
            refine ow_goto (tgt := 182) d_Mo_blow_148 (by decide) ?_
            refine ow_iinc 7 (v := (v7 + 1)) (ls2 := [(7, .int (v7 + 1)), (10, .int v6), (8, .long ((v4 / 100) * (Int32.toInt64 (I 73 0)))), (0, .ref 70), (1, .int v1), (3, .int v3), (4, .long v4), (6, .int v6)]) d_Mo_blow_182 rfl rfl (by decide) rfl ?_
            refine ow_goto (tgt := 45) d_Mo_blow_185 (by decide) ?_
            refine ow_sub [3, 4, 5, 6, 7, 0] rfl ?_
            exact T
        · replace T := T.2 c
          refine ow_goto (tgt := 182) d_Mo_blow_109 (by decide) ?_
          refine ow_iinc 7 (v := (v7 + 1)) (ls2 := [(7, .int (v7 + 1)), (10, .int v6), (8, .long ((v4 / 100) * (Int32.toInt64 (I 73 0)))), (0, .ref 70), (1, .int v1), (3, .int v3), (4, .long v4), (6, .int v6)]) d_Mo_blow_182 rfl rfl (by decide) rfl ?_
          refine ow_goto (tgt := 45) d_Mo_blow_185 (by decide) ?_
          refine ow_sub [3, 4, 5, 6, 7, 0] rfl ?_
          exact T
      · replace T := T.2 c
        refine ow_iconst (v := 1) (by decide) d_Mo_blow_91 ?_
        refine ow_iload 5 rfl d_Mo_blow_92 ?_
        refine ow_isub d_Mo_blow_94 ?_
        refine ow_goto (tgt := 100) d_Mo_blow_95 (by decide) ?_
        refine ow_istore (ls2 := [(10, .int (1 - v6)), (8, .long ((v4 / 100) * (Int32.toInt64 (I 73 0)))), (0, .ref 70), (1, .int v1), (3, .int v3), (4, .long v4), (6, .int v6), (7, .int v7)]) d_Mo_blow_100 (by decide) rfl ?_
        refine ow_lload 1 rfl d_Mo_blow_102 ?_
        refine ow_lconst (v := 0) (by decide) d_Mo_blow_104 ?_
        refine ow_lcmp d_Mo_blow_105 ?_
        refine ow_if_ne (tgt := 112) d_Mo_blow_106 (by decide) (fun c => ?_) (fun c => ?_)
        · replace T := T.1 c
          refine ow_aload_n 2 rfl d_Mo_blow_112 ?_
          refine ow_gR (a := 77) 188 d_Mo_blow_113 rfl rfl (by decide) rfl ⟨rfl, hR 70 19 (by decide)⟩ ?_
          refine ow_bipush (v := 6) (by decide) d_Mo_blow_116 ?_
          refine ow_iload_n 3 rfl d_Mo_blow_118 ?_
          refine ow_iadd d_Mo_blow_119 ?_
          obtain ⟨cI, T⟩ := T
          refine ow_hiaload d_Mo_blow_120 (by decide) rfl rfl cI ?_
          refine ow_if_le (tgt := 151) d_Mo_blow_121 (by decide) (fun c => ?_) (fun c => ?_)
          · replace T := T.1 c
            refine ow_iload 0 rfl d_Mo_blow_151 ?_
            refine ow_iconst (v := 1) (by decide) d_Mo_blow_153 ?_
            refine ow_icmp_ne (tgt := 171) d_Mo_blow_154 (by decide) (fun c => ?_) (fun c => ?_)
            · replace T := T.1 c
              refine ow_aload_n 2 rfl d_Mo_blow_171 ?_
              refine ow_dup rfl d_Mo_blow_172 ?_
              refine ow_gJ 207 d_Mo_blow_173 rfl rfl (by decide) rfl rfl ?_
              refine ow_lload 1 rfl d_Mo_blow_176 ?_
              refine ow_ladd d_Mo_blow_178 ?_
              refine ow_pJ 207 d_Mo_blow_179 rfl rfl (by decide) rfl rfl rfl ?_
              obtain ⟨J14, eJ14⟩ : ∃ uu, uu = ow_u J 70 38 ((J 70 38) + ((v4 / 100) * (Int32.toInt64 (I 73 0)))) := ⟨_, rfl⟩
              replace T := T J14 eJ14
              rw [← eJ14]
              refine ow_iinc 7 (v := (v7 + 1)) (ls2 := [(7, .int (v7 + 1)), (10, .int (1 - v6)), (8, .long ((v4 / 100) * (Int32.toInt64 (I 73 0)))), (0, .ref 70), (1, .int v1), (3, .int v3), (4, .long v4), (6, .int v6)]) d_Mo_blow_182 rfl rfl (by decide) rfl ?_
              refine ow_goto (tgt := 45) d_Mo_blow_185 (by decide) ?_
              refine ow_sub [3, 4, 5, 6, 7, 0] rfl ?_
              exact T
            · replace T := T.2 c
              refine ow_aload_n 2 rfl d_Mo_blow_157 ?_
              refine ow_dup rfl d_Mo_blow_158 ?_
              refine ow_gJ 206 d_Mo_blow_159 rfl rfl (by decide) rfl rfl ?_
              refine ow_lload 1 rfl d_Mo_blow_162 ?_
              refine ow_ladd d_Mo_blow_164 ?_
              refine ow_pJ 206 d_Mo_blow_165 rfl rfl (by decide) rfl rfl rfl ?_
              obtain ⟨J15, eJ15⟩ : ∃ uu, uu = ow_u J 70 37 ((J 70 37) + ((v4 / 100) * (Int32.toInt64 (I 73 0)))) := ⟨_, rfl⟩
              replace T := T J15 eJ15
              rw [← eJ15]
              refine ow_goto (tgt := 182) d_Mo_blow_168 (by decide) ?_
              refine ow_iinc 7 (v := (v7 + 1)) (ls2 := [(7, .int (v7 + 1)), (10, .int (1 - v6)), (8, .long ((v4 / 100) * (Int32.toInt64 (I 73 0)))), (0, .ref 70), (1, .int v1), (3, .int v3), (4, .long v4), (6, .int v6)]) d_Mo_blow_182 rfl rfl (by decide) rfl ?_
              refine ow_goto (tgt := 45) d_Mo_blow_185 (by decide) ?_
              refine ow_sub [3, 4, 5, 6, 7, 0] rfl ?_
              exact T
          · replace T := T.2 c
            refine ow_aload_n 2 rfl d_Mo_blow_124 ?_
            refine ow_aload_n 2 rfl d_Mo_blow_125 ?_
            refine ow_gR (a := 77) 188 d_Mo_blow_126 rfl rfl (by decide) rfl ⟨rfl, hR 70 19 (by decide)⟩ ?_
            refine ow_bipush (v := 6) (by decide) d_Mo_blow_129 ?_
            refine ow_iload_n 3 rfl d_Mo_blow_131 ?_
            refine ow_iadd d_Mo_blow_132 ?_
            obtain ⟨cI, T⟩ := T
            refine ow_hiaload d_Mo_blow_133 (by decide) rfl rfl cI ?_
            refine ow_iconst (v := 1) (by decide) d_Mo_blow_134 ?_
            refine ow_isub d_Mo_blow_135 ?_
            refine ow_iload 0 rfl d_Mo_blow_136 ?_
            refine ow_iload_n 4 rfl d_Mo_blow_138 ?_
            refine ow_iconst (v := 1) (by decide) d_Mo_blow_139 ?_
            refine ow_iload_n 3 rfl d_Mo_blow_140 ?_
            refine ow_ishl d_Mo_blow_141 ?_
            refine ow_ior d_Mo_blow_142 ?_
            refine ow_lload 1 rfl d_Mo_blow_143 ?_
            refine ow_callV (b := 70) (cq := 12) (As := [.int ((I 77 (6 + v1).toNatClampNeg) - 1), .int (1 - v6), .int (v3 ||| ((1 : Int32) <<< (v1 &&& 31))), .long ((v4 / 100) * (Int32.toInt64 (I 73 0)))]) (rest := []) (d2 := d) d_Mo_blow_145 l_Mo_390 v_Mo_blow (show 70 < 85 by decide) rfl (by decide) rfl (Nat.le_of_ble_eq_true rfl) (Nat.le_refl _) ⟨Nat.le_refl _, Nat.le_refl _⟩ (ow_mono T ?_)
            rintro r h' ⟨I16, J16, R16, rfl, rfl, hR16, T⟩
            show ow_AW ow_Y0 (ow_Z Q) M_Mo_blow (d + 1) 0 0 148 [(10, .int (1 - v6)), (8, .long ((v4 / 100) * (Int32.toInt64 (I 73 0)))), (0, .ref 70), (1, .int v1), (3, .int v3), (4, .long v4), (6, .int v6), (7, .int v7)] [] (85, I16, J16, R16) 0 0
            refine ow_goto (tgt := 182) d_Mo_blow_148 (by decide) ?_
            refine ow_iinc 7 (v := (v7 + 1)) (ls2 := [(7, .int (v7 + 1)), (10, .int (1 - v6)), (8, .long ((v4 / 100) * (Int32.toInt64 (I 73 0)))), (0, .ref 70), (1, .int v1), (3, .int v3), (4, .long v4), (6, .int v6)]) d_Mo_blow_182 rfl rfl (by decide) rfl ?_
            refine ow_goto (tgt := 45) d_Mo_blow_185 (by decide) ?_
            refine ow_sub [3, 4, 5, 6, 7, 0] rfl ?_
            exact T
        · replace T := T.2 c
          refine ow_goto (tgt := 182) d_Mo_blow_109 (by decide) ?_
          refine ow_iinc 7 (v := (v7 + 1)) (ls2 := [(7, .int (v7 + 1)), (10, .int (1 - v6)), (8, .long ((v4 / 100) * (Int32.toInt64 (I 73 0)))), (0, .ref 70), (1, .int v1), (3, .int v3), (4, .long v4), (6, .int v6)]) d_Mo_blow_182 rfl rfl (by decide) rfl ?_
          refine ow_goto (tgt := 45) d_Mo_blow_185 (by decide) ?_
          refine ow_sub [3, 4, 5, 6, 7, 0] rfl ?_
          exact T
set_option maxRecDepth 4000 in
theorem t_Mo_blow {d : Nat} {I : Nat → Nat → Int32} {J : Nat → Nat → Int64} {R : Nat → Nat → Option Nat} {Q : Option Value → ow_H → Prop} {p1 : Int32} {p2 : Int32} {p3 : Int32} {p4 : Int64}  (hR : ow_RF R) (T : (ow_AM M_Mo_hasBit d [.int p3, .int p1] (85, I, J, R) (fun r h' => ∃ (r17 : Int32) (I17 : Nat → Nat → Int32) (J17 : Nat → Nat → Int64) (R17 : Nat → Nat → Option Nat), r = some (.int r17) ∧ h' = (85, I17, J17, R17) ∧ ow_RF R17 ∧ ((r17 = 0 → (ow_AM M_Mo_answerOf d [.ref 70, .ref 77, .int p1, .int p2] (85, I17, J17, R17) (fun r h' => ∃ (r18 : Int32) (I18 : Nat → Nat → Int32) (J18 : Nat → Nat → Int64) (R18 : Nat → Nat → Option Nat), r = some (.int r18) ∧ h' = (85, I18, J18, R18) ∧ ow_RF R18 ∧ ((0 ≤ r18 → ow_AW ow_Y0 (ow_Z Q) M_Mo_blow (d + 1) 0 0 45 [(0, .ref 70), (1, .int p1), (3, .int p3), (4, .long p4), (6, .int r18), (7, .int 0)] [] (85, I18, J18, R18) 0 0) ∧ (¬ 0 ≤ r18 → (∀ (J19 : Nat → Nat → Int64), J19 = ow_u J18 70 39 ((J18 70 39) + p4) → Q none (85, I18, J19, R18))))))) ∧ (¬ r17 = 0 → (∀ (J20 : Nat → Nat → Int64), J20 = ow_u J17 70 39 ((J17 70 39) + p4) → Q none (85, I17, J20, R17))))))) : ow_AM M_Mo_blow (d + 1) [.ref 70, .int p1, .int p2, .int p3, .long p4] (85, I, J, R) Q := by
  refine ow_enter (by decide) (Nat.le_of_ble_eq_true rfl) ?_
  show ow_AW ow_Y0 (ow_Z Q) M_Mo_blow (d + 1) 0 0 0 [(0, .ref 70), (1, .int p1), (2, .int p2), (3, .int p3), (4, .long p4)] [] (85, I, J, R) 0 0
  refine ow_iload_n 3 rfl d_Mo_blow_0 ?_
  refine ow_iload_n 1 rfl d_Mo_blow_1 ?_
  refine ow_callS (As := [.int p3, .int p1]) (rest := []) (d2 := d) d_Mo_blow_2 l_Mo_231 v_Mo_hasBit (Nat.le_of_ble_eq_true rfl) (Nat.le_refl _) ⟨Nat.le_refl _, Nat.le_refl _⟩ (ow_mono T ?_)
  rintro r h' ⟨r17, I17, J17, R17, rfl, rfl, hR17, T⟩
  show ow_AW ow_Y0 (ow_Z Q) M_Mo_blow (d + 1) 0 0 5 [(0, .ref 70), (1, .int p1), (2, .int p2), (3, .int p3), (4, .long p4)] [.int r17] (85, I17, J17, R17) 0 0
  refine ow_if_eq (tgt := 13) d_Mo_blow_5 (by decide) (fun c => ?_) (fun c => ?_)
  · replace T := T.1 c
    refine ow_aload_n 0 rfl d_Mo_blow_13 ?_
    refine ow_aload_n 0 rfl d_Mo_blow_14 ?_
    refine ow_gR (a := 77) 188 d_Mo_blow_15 rfl rfl (by decide) rfl ⟨rfl, hR17 70 19 (by decide)⟩ ?_
    refine ow_iload_n 1 rfl d_Mo_blow_18 ?_
    refine ow_iload_n 2 rfl d_Mo_blow_19 ?_
    refine ow_callV (b := 70) (cq := 12) (As := [.ref 77, .int p1, .int p2]) (rest := []) (d2 := d) d_Mo_blow_20 l_Mo_257 v_Mo_answerOf (show 70 < 85 by decide) rfl (by decide) rfl (Nat.le_of_ble_eq_true rfl) (Nat.le_refl _) ⟨Nat.le_refl _, Nat.le_refl _⟩ (ow_mono T ?_)
    rintro r h' ⟨r18, I18, J18, R18, rfl, rfl, hR18, T⟩
    show ow_AW ow_Y0 (ow_Z Q) M_Mo_blow (d + 1) 0 0 23 [(0, .ref 70), (1, .int p1), (2, .int p2), (3, .int p3), (4, .long p4)] [.int r18] (85, I18, J18, R18) 0 0
    refine ow_istore (ls2 := [(6, .int r18), (0, .ref 70), (1, .int p1), (2, .int p2), (3, .int p3), (4, .long p4)]) d_Mo_blow_23 (by decide) rfl ?_
    refine ow_iload 0 rfl d_Mo_blow_25 ?_
    refine ow_if_ge (tgt := 42) d_Mo_blow_27 (by decide) (fun c => ?_) (fun c => ?_)
    · replace T := T.1 c
      refine ow_iconst (v := 0) (by decide) d_Mo_blow_42 ?_
      refine ow_istore (ls2 := [(7, .int 0), (6, .int r18), (0, .ref 70), (1, .int p1), (2, .int p2), (3, .int p3), (4, .long p4)]) d_Mo_blow_43 (by decide) rfl ?_
      refine ow_sub [2, 3, 5, 6, 1, 0] rfl ?_
      exact T
    · replace T := T.2 c
      refine ow_aload_n 1 rfl d_Mo_blow_30 ?_
      refine ow_dup rfl d_Mo_blow_31 ?_
      refine ow_gJ 208 d_Mo_blow_32 rfl rfl (by decide) rfl rfl ?_
      refine ow_lload 5 rfl d_Mo_blow_35 ?_
      refine ow_ladd d_Mo_blow_37 ?_
      refine ow_pJ 208 d_Mo_blow_38 rfl rfl (by decide) rfl rfl rfl ?_
      obtain ⟨J19, eJ19⟩ : ∃ uu, uu = ow_u J18 70 39 ((J18 70 39) + p4) := ⟨_, rfl⟩
      replace T := T J19 eJ19
      rw [← eJ19]
      exact ow_vret d_Mo_blow_41 rfl T
  · replace T := T.2 c
    refine ow_bipush (v := (-2)) (by decide) d_Mo_blow_8 ?_
    refine ow_goto (tgt := 23) d_Mo_blow_10 (by decide) ?_
    refine ow_istore (ls2 := [(6, .int (-2)), (0, .ref 70), (1, .int p1), (2, .int p2), (3, .int p3), (4, .long p4)]) d_Mo_blow_23 (by decide) rfl ?_
    refine ow_iload 0 rfl d_Mo_blow_25 ?_
    refine ow_if_ge (tgt := 42) d_Mo_blow_27 (by decide) (fun c => ?_) (fun c => ?_)
    · exact absurd c (by decide)
    · clear c
      refine ow_aload_n 1 rfl d_Mo_blow_30 ?_
      refine ow_dup rfl d_Mo_blow_31 ?_
      refine ow_gJ 208 d_Mo_blow_32 rfl rfl (by decide) rfl rfl ?_
      refine ow_lload 5 rfl d_Mo_blow_35 ?_
      refine ow_ladd d_Mo_blow_37 ?_
      refine ow_pJ 208 d_Mo_blow_38 rfl rfl (by decide) rfl rfl rfl ?_
      obtain ⟨J20, eJ20⟩ : ∃ uu, uu = ow_u J17 70 39 ((J17 70 39) + p4) := ⟨_, rfl⟩
      replace T := T J20 eJ20
      rw [← eJ20]
      exact ow_vret d_Mo_blow_41 rfl T
set_option maxRecDepth 4000 in
theorem t_Mo_blowAll {d : Nat} {I : Nat → Nat → Int32} {J : Nat → Nat → Int64} {R : Nat → Nat → Option Nat} {Q : Option Value → ow_H → Prop} {p1 : Int32} {p2 : Int32}  (hR : ow_RF R) (T : (ow_AM M_Mo_asToldShapes d [.ref 70] (85, I, J, R) (fun r h' => ∃ (I7 : Nat → Nat → Int32) (J7 : Nat → Nat → Int64) (R7 : Nat → Nat → Option Nat), r = none ∧ h' = (85, I7, J7, R7) ∧ ow_RF R7 ∧ (∀ (J8 : Nat → Nat → Int64), J8 = ow_u J7 70 37 0 → (∀ (J9 : Nat → Nat → Int64), J9 = ow_u J8 70 38 0 → (∀ (J10 : Nat → Nat → Int64), J10 = ow_u J9 70 39 0 → ((p2 = 0 → (ow_AM M_Mo_blow d [.ref 70, .int p1, .int 0, .int 0, .long 1000000000000] (85, I7, J10, R7) (fun r h' => ∃ (I11 : Nat → Nat → Int32) (J11 : Nat → Nat → Int64) (R11 : Nat → Nat → Option Nat), r = none ∧ h' = (85, I11, J11, R11) ∧ ow_RF R11 ∧ Q none (85, I11, J11, R11)))) ∧ (¬ p2 = 0 → (ow_AM M_Mo_blow d [.ref 70, .int p1, .int 1, .int 0, .long 1000000000000] (85, I7, J10, R7) (fun r h' => ∃ (I12 : Nat → Nat → Int32) (J12 : Nat → Nat → Int64) (R12 : Nat → Nat → Option Nat), r = none ∧ h' = (85, I12, J12, R12) ∧ ow_RF R12 ∧ Q none (85, I12, J12, R12))))))))))) : ow_AM M_Mo_blowAll (d + 1) [.ref 70, .int p1, .int p2] (85, I, J, R) Q := by
  refine ow_enter (by decide) (Nat.le_of_ble_eq_true rfl) ?_
  show ow_AW ow_Y0 (ow_Z Q) M_Mo_blowAll (d + 1) 0 0 0 [(0, .ref 70), (1, .int p1), (2, .int p2)] [] (85, I, J, R) 0 0
  refine ow_aload_n 0 rfl d_Mo_blowAll_0 ?_
  refine ow_callV (b := 70) (cq := 12) (As := []) (rest := []) (d2 := d) d_Mo_blowAll_1 l_Mo_281 v_Mo_asToldShapes (show 70 < 85 by decide) rfl (by decide) rfl (Nat.le_of_ble_eq_true rfl) (Nat.le_refl _) ⟨Nat.le_refl _, Nat.le_refl _⟩ (ow_mono T ?_)
  rintro r h' ⟨I7, J7, R7, rfl, rfl, hR7, T⟩
  show ow_AW ow_Y0 (ow_Z Q) M_Mo_blowAll (d + 1) 0 0 4 [(0, .ref 70), (1, .int p1), (2, .int p2)] [] (85, I7, J7, R7) 0 0
  refine ow_aload_n 0 rfl d_Mo_blowAll_4 ?_
  refine ow_lconst (v := 0) (by decide) d_Mo_blowAll_5 ?_
  refine ow_pJ 206 d_Mo_blowAll_6 rfl rfl (by decide) rfl rfl rfl ?_
  obtain ⟨J8, eJ8⟩ : ∃ uu, uu = ow_u J7 70 37 0 := ⟨_, rfl⟩
  replace T := T J8 eJ8
  rw [← eJ8]
  refine ow_aload_n 0 rfl d_Mo_blowAll_9 ?_
  refine ow_lconst (v := 0) (by decide) d_Mo_blowAll_10 ?_
  refine ow_pJ 207 d_Mo_blowAll_11 rfl rfl (by decide) rfl rfl rfl ?_
  obtain ⟨J9, eJ9⟩ : ∃ uu, uu = ow_u J8 70 38 0 := ⟨_, rfl⟩
  replace T := T J9 eJ9
  rw [← eJ9]
  refine ow_aload_n 0 rfl d_Mo_blowAll_14 ?_
  refine ow_lconst (v := 0) (by decide) d_Mo_blowAll_15 ?_
  refine ow_pJ 208 d_Mo_blowAll_16 rfl rfl (by decide) rfl rfl rfl ?_
  obtain ⟨J10, eJ10⟩ : ∃ uu, uu = ow_u J9 70 39 0 := ⟨_, rfl⟩
  replace T := T J10 eJ10
  rw [← eJ10]
  refine ow_aload_n 0 rfl d_Mo_blowAll_19 ?_
  refine ow_iload_n 1 rfl d_Mo_blowAll_20 ?_
  refine ow_iload_n 2 rfl d_Mo_blowAll_21 ?_
  refine ow_if_eq (tgt := 29) d_Mo_blowAll_22 (by decide) (fun c => ?_) (fun c => ?_)
  · replace T := T.1 c
    refine ow_iconst (v := 0) (by decide) d_Mo_blowAll_29 ?_
    refine ow_iconst (v := 0) (by decide) d_Mo_blowAll_30 ?_
    refine ow_ldc2 (v := 1000000000000) d_Mo_blowAll_31 k_Mo_400 ?_
    refine ow_callV (b := 70) (cq := 12) (As := [.int p1, .int 0, .int 0, .long 1000000000000]) (rest := []) (d2 := d) d_Mo_blowAll_34 l_Mo_390 v_Mo_blow (show 70 < 85 by decide) rfl (by decide) rfl (Nat.le_of_ble_eq_true rfl) (Nat.le_refl _) ⟨Nat.le_refl _, Nat.le_refl _⟩ (ow_mono T ?_)
    rintro r h' ⟨I11, J11, R11, rfl, rfl, hR11, T⟩
    show ow_AW ow_Y0 (ow_Z Q) M_Mo_blowAll (d + 1) 0 0 37 [(0, .ref 70), (1, .int p1), (2, .int p2)] [] (85, I11, J11, R11) 0 0
    exact ow_vret d_Mo_blowAll_37 rfl T
  · replace T := T.2 c
    refine ow_iconst (v := 1) (by decide) d_Mo_blowAll_25 ?_
    refine ow_goto (tgt := 30) d_Mo_blowAll_26 (by decide) ?_
    refine ow_iconst (v := 0) (by decide) d_Mo_blowAll_30 ?_
    refine ow_ldc2 (v := 1000000000000) d_Mo_blowAll_31 k_Mo_400 ?_
    refine ow_callV (b := 70) (cq := 12) (As := [.int p1, .int 1, .int 0, .long 1000000000000]) (rest := []) (d2 := d) d_Mo_blowAll_34 l_Mo_390 v_Mo_blow (show 70 < 85 by decide) rfl (by decide) rfl (Nat.le_of_ble_eq_true rfl) (Nat.le_refl _) ⟨Nat.le_refl _, Nat.le_refl _⟩ (ow_mono T ?_)
    rintro r h' ⟨I12, J12, R12, rfl, rfl, hR12, T⟩
    show ow_AW ow_Y0 (ow_Z Q) M_Mo_blowAll (d + 1) 0 0 37 [(0, .ref 70), (1, .int p1), (2, .int p2)] [] (85, I12, J12, R12) 0 0
    exact ow_vret d_Mo_blowAll_37 rfl T
set_option maxRecDepth 4000 in
theorem t_Mo_odds {d : Nat} {I : Nat → Nat → Int32} {J : Nat → Nat → Int64} {R : Nat → Nat → Option Nat} {Q : Option Value → ow_H → Prop} {p1 : Int32} {p2 : Int32} {p3 : Int32} {p4 : Int32}  (hR : ow_RF R) (T : (ow_AM M_Mo_good d [.ref 70] (85, I, J, R) (fun r h' => ∃ (I7 : Nat → Nat → Int32) (J7 : Nat → Nat → Int64) (R7 : Nat → Nat → Option Nat), r = none ∧ h' = (85, I7, J7, R7) ∧ ow_RF R7 ∧ (ow_AM M_Mo_isFolly d [.ref 70, .int p1] (85, I7, J7, R7) (fun r h' => ∃ (r8 : Int32) (I8 : Nat → Nat → Int32) (J8 : Nat → Nat → Int64) (R8 : Nat → Nat → Option Nat), r = some (.int r8) ∧ h' = (85, I8, J8, R8) ∧ ow_RF R8 ∧ ((¬ r8 = 0 → (ow_AM M_Mo_blowAll d [.ref 70, .int p1, .int p2] (85, I8, J8, R8) (fun r h' => ∃ (I9 : Nat → Nat → Int32) (J9 : Nat → Nat → Int64) (R9 : Nat → Nat → Option Nat), r = none ∧ h' = (85, I9, J9, R9) ∧ ow_RF R9 ∧ ((p3 = 0 → (ow_AM M_Mo_lowest d [.long (J9 70 38), .long 1000000000000, .int p4] (85, I9, J9, R9) (fun r h' => ∃ (r10 : Int64) (I10 : Nat → Nat → Int32) (J10 : Nat → Nat → Int64) (R10 : Nat → Nat → Option Nat), r = some (.long r10) ∧ h' = (85, I10, J10, R10) ∧ ow_RF R10 ∧ Q (some (.long r10)) (85, I10, J10, R10)))) ∧ (¬ p3 = 0 → (ow_AM M_Mo_lowest d [.long (J9 70 37), .long 1000000000000, .int p4] (85, I9, J9, R9) (fun r h' => ∃ (r11 : Int64) (I11 : Nat → Nat → Int32) (J11 : Nat → Nat → Int64) (R11 : Nat → Nat → Option Nat), r = some (.long r11) ∧ h' = (85, I11, J11, R11) ∧ ow_RF R11 ∧ Q (some (.long r11)) (85, I11, J11, R11)))))))) ∧ (r8 = 0 → (ow_AM M_Mo_no d [.ref 70, .int 1] (85, I8, J8, R8) (fun r h' => ∃ (r12 : Int32) (I12 : Nat → Nat → Int32) (J12 : Nat → Nat → Int64) (R12 : Nat → Nat → Option Nat), r = some (.int r12) ∧ h' = (85, I12, J12, R12) ∧ ow_RF R12 ∧ Q (some (.long (Int32.toInt64 r12))) (85, I12, J12, R12)))))))))) : ow_AM M_Mo_odds (d + 1) [.ref 70, .int p1, .int p2, .int p3, .int p4] (85, I, J, R) Q := by
  refine ow_enter (by decide) (Nat.le_of_ble_eq_true rfl) ?_
  show ow_AW ow_Y0 (ow_Z Q) M_Mo_odds (d + 1) 0 0 0 [(0, .ref 70), (1, .int p1), (2, .int p2), (3, .int p3), (4, .int p4)] [] (85, I, J, R) 0 0
  refine ow_aload_n 0 rfl d_Mo_odds_0 ?_
  refine ow_callV (b := 70) (cq := 12) (As := []) (rest := []) (d2 := d) d_Mo_odds_1 l_Mo_154 v_Mo_good (show 70 < 85 by decide) rfl (by decide) rfl (Nat.le_of_ble_eq_true rfl) (Nat.le_refl _) ⟨Nat.le_refl _, Nat.le_refl _⟩ (ow_mono T ?_)
  rintro r h' ⟨I7, J7, R7, rfl, rfl, hR7, T⟩
  show ow_AW ow_Y0 (ow_Z Q) M_Mo_odds (d + 1) 0 0 4 [(0, .ref 70), (1, .int p1), (2, .int p2), (3, .int p3), (4, .int p4)] [] (85, I7, J7, R7) 0 0
  refine ow_aload_n 0 rfl d_Mo_odds_4 ?_
  refine ow_iload_n 1 rfl d_Mo_odds_5 ?_
  refine ow_callV (b := 70) (cq := 12) (As := [.int p1]) (rest := []) (d2 := d) d_Mo_odds_6 l_Mo_272 v_Mo_isFolly (show 70 < 85 by decide) rfl (by decide) rfl (Nat.le_of_ble_eq_true rfl) (Nat.le_refl _) ⟨Nat.le_refl _, Nat.le_refl _⟩ (ow_mono T ?_)
  rintro r h' ⟨r8, I8, J8, R8, rfl, rfl, hR8, T⟩
  show ow_AW ow_Y0 (ow_Z Q) M_Mo_odds (d + 1) 0 0 9 [(0, .ref 70), (1, .int p1), (2, .int p2), (3, .int p3), (4, .int p4)] [.int r8] (85, I8, J8, R8) 0 0
  refine ow_if_ne (tgt := 19) d_Mo_odds_9 (by decide) (fun c => ?_) (fun c => ?_)
  · replace T := T.1 c
    refine ow_aload_n 0 rfl d_Mo_odds_19 ?_
    refine ow_iload_n 1 rfl d_Mo_odds_20 ?_
    refine ow_iload_n 2 rfl d_Mo_odds_21 ?_
    refine ow_callV (b := 70) (cq := 12) (As := [.int p1, .int p2]) (rest := []) (d2 := d) d_Mo_odds_22 l_Mo_402 v_Mo_blowAll (show 70 < 85 by decide) rfl (by decide) rfl (Nat.le_of_ble_eq_true rfl) (Nat.le_refl _) ⟨Nat.le_refl _, Nat.le_refl _⟩ (ow_mono T ?_)
    rintro r h' ⟨I9, J9, R9, rfl, rfl, hR9, T⟩
    show ow_AW ow_Y0 (ow_Z Q) M_Mo_odds (d + 1) 0 0 25 [(0, .ref 70), (1, .int p1), (2, .int p2), (3, .int p3), (4, .int p4)] [] (85, I9, J9, R9) 0 0
    refine ow_iload_n 3 rfl d_Mo_odds_25 ?_
    refine ow_if_eq (tgt := 36) d_Mo_odds_26 (by decide) (fun c => ?_) (fun c => ?_)
    · replace T := T.1 c
      refine ow_aload_n 0 rfl d_Mo_odds_36 ?_
      refine ow_gJ 207 d_Mo_odds_37 rfl rfl (by decide) rfl rfl ?_
      refine ow_ldc2 (v := 1000000000000) d_Mo_odds_40 k_Mo_400 ?_
      refine ow_iload 4 rfl d_Mo_odds_43 ?_
      refine ow_callS (As := [.long (J9 70 38), .long 1000000000000, .int p4]) (rest := []) (d2 := d) d_Mo_odds_45 l_Mo_370 v_Mo_lowest (Nat.le_of_ble_eq_true rfl) (Nat.le_refl _) ⟨Nat.le_refl _, Nat.le_refl _⟩ (ow_mono T ?_)
      rintro r h' ⟨r10, I10, J10, R10, rfl, rfl, hR10, T⟩
      show ow_AW ow_Y0 (ow_Z Q) M_Mo_odds (d + 1) 0 0 48 [(0, .ref 70), (1, .int p1), (2, .int p2), (3, .int p3), (4, .int p4)] [.long r10] (85, I10, J10, R10) 0 0
      exact ow_lret d_Mo_odds_48 rfl T
    · replace T := T.2 c
      refine ow_aload_n 0 rfl d_Mo_odds_29 ?_
      refine ow_gJ 206 d_Mo_odds_30 rfl rfl (by decide) rfl rfl ?_
      refine ow_goto (tgt := 40) d_Mo_odds_33 (by decide) ?_
      refine ow_ldc2 (v := 1000000000000) d_Mo_odds_40 k_Mo_400 ?_
      refine ow_iload 4 rfl d_Mo_odds_43 ?_
      refine ow_callS (As := [.long (J9 70 37), .long 1000000000000, .int p4]) (rest := []) (d2 := d) d_Mo_odds_45 l_Mo_370 v_Mo_lowest (Nat.le_of_ble_eq_true rfl) (Nat.le_refl _) ⟨Nat.le_refl _, Nat.le_refl _⟩ (ow_mono T ?_)
      rintro r h' ⟨r11, I11, J11, R11, rfl, rfl, hR11, T⟩
      show ow_AW ow_Y0 (ow_Z Q) M_Mo_odds (d + 1) 0 0 48 [(0, .ref 70), (1, .int p1), (2, .int p2), (3, .int p3), (4, .int p4)] [.long r11] (85, I11, J11, R11) 0 0
      exact ow_lret d_Mo_odds_48 rfl T
  · replace T := T.2 c
    refine ow_aload_n 0 rfl d_Mo_odds_12 ?_
    refine ow_iconst (v := 1) (by decide) d_Mo_odds_13 ?_
    refine ow_callV (b := 70) (cq := 12) (As := [.int 1]) (rest := []) (d2 := d) d_Mo_odds_14 l_Mo_157 v_Mo_no (show 70 < 85 by decide) rfl (by decide) rfl (Nat.le_of_ble_eq_true rfl) (Nat.le_refl _) ⟨Nat.le_refl _, Nat.le_refl _⟩ (ow_mono T ?_)
    rintro r h' ⟨r12, I12, J12, R12, rfl, rfl, hR12, T⟩
    show ow_AW ow_Y0 (ow_Z Q) M_Mo_odds (d + 1) 0 0 17 [(0, .ref 70), (1, .int p1), (2, .int p2), (3, .int p3), (4, .int p4)] [.int r12] (85, I12, J12, R12) 0 0
    refine ow_i2l d_Mo_odds_17 ?_
    exact ow_lret d_Mo_odds_18 rfl T
set_option maxRecDepth 4000 in
theorem t_Mo_lostOdds {d : Nat} {I : Nat → Nat → Int32} {J : Nat → Nat → Int64} {R : Nat → Nat → Option Nat} {Q : Option Value → ow_H → Prop} {p1 : Int32} {p2 : Int32} {p3 : Int32}  (hR : ow_RF R) (T : (ow_AM M_Mo_good d [.ref 70] (85, I, J, R) (fun r h' => ∃ (I6 : Nat → Nat → Int32) (J6 : Nat → Nat → Int64) (R6 : Nat → Nat → Option Nat), r = none ∧ h' = (85, I6, J6, R6) ∧ ow_RF R6 ∧ (ow_AM M_Mo_isFolly d [.ref 70, .int p1] (85, I6, J6, R6) (fun r h' => ∃ (r7 : Int32) (I7 : Nat → Nat → Int32) (J7 : Nat → Nat → Int64) (R7 : Nat → Nat → Option Nat), r = some (.int r7) ∧ h' = (85, I7, J7, R7) ∧ ow_RF R7 ∧ ((¬ r7 = 0 → (ow_AM M_Mo_blowAll d [.ref 70, .int p1, .int p2] (85, I7, J7, R7) (fun r h' => ∃ (I8 : Nat → Nat → Int32) (J8 : Nat → Nat → Int64) (R8 : Nat → Nat → Option Nat), r = none ∧ h' = (85, I8, J8, R8) ∧ ow_RF R8 ∧ (ow_AM M_Mo_lowest d [.long (J8 70 39), .long 1000000000000, .int p3] (85, I8, J8, R8) (fun r h' => ∃ (r9 : Int64) (I9 : Nat → Nat → Int32) (J9 : Nat → Nat → Int64) (R9 : Nat → Nat → Option Nat), r = some (.long r9) ∧ h' = (85, I9, J9, R9) ∧ ow_RF R9 ∧ Q (some (.long r9)) (85, I9, J9, R9)))))) ∧ (r7 = 0 → (ow_AM M_Mo_no d [.ref 70, .int 1] (85, I7, J7, R7) (fun r h' => ∃ (r10 : Int32) (I10 : Nat → Nat → Int32) (J10 : Nat → Nat → Int64) (R10 : Nat → Nat → Option Nat), r = some (.int r10) ∧ h' = (85, I10, J10, R10) ∧ ow_RF R10 ∧ Q (some (.long (Int32.toInt64 r10))) (85, I10, J10, R10)))))))))) : ow_AM M_Mo_lostOdds (d + 1) [.ref 70, .int p1, .int p2, .int p3] (85, I, J, R) Q := by
  refine ow_enter (by decide) (Nat.le_of_ble_eq_true rfl) ?_
  show ow_AW ow_Y0 (ow_Z Q) M_Mo_lostOdds (d + 1) 0 0 0 [(0, .ref 70), (1, .int p1), (2, .int p2), (3, .int p3)] [] (85, I, J, R) 0 0
  refine ow_aload_n 0 rfl d_Mo_lostOdds_0 ?_
  refine ow_callV (b := 70) (cq := 12) (As := []) (rest := []) (d2 := d) d_Mo_lostOdds_1 l_Mo_154 v_Mo_good (show 70 < 85 by decide) rfl (by decide) rfl (Nat.le_of_ble_eq_true rfl) (Nat.le_refl _) ⟨Nat.le_refl _, Nat.le_refl _⟩ (ow_mono T ?_)
  rintro r h' ⟨I6, J6, R6, rfl, rfl, hR6, T⟩
  show ow_AW ow_Y0 (ow_Z Q) M_Mo_lostOdds (d + 1) 0 0 4 [(0, .ref 70), (1, .int p1), (2, .int p2), (3, .int p3)] [] (85, I6, J6, R6) 0 0
  refine ow_aload_n 0 rfl d_Mo_lostOdds_4 ?_
  refine ow_iload_n 1 rfl d_Mo_lostOdds_5 ?_
  refine ow_callV (b := 70) (cq := 12) (As := [.int p1]) (rest := []) (d2 := d) d_Mo_lostOdds_6 l_Mo_272 v_Mo_isFolly (show 70 < 85 by decide) rfl (by decide) rfl (Nat.le_of_ble_eq_true rfl) (Nat.le_refl _) ⟨Nat.le_refl _, Nat.le_refl _⟩ (ow_mono T ?_)
  rintro r h' ⟨r7, I7, J7, R7, rfl, rfl, hR7, T⟩
  show ow_AW ow_Y0 (ow_Z Q) M_Mo_lostOdds (d + 1) 0 0 9 [(0, .ref 70), (1, .int p1), (2, .int p2), (3, .int p3)] [.int r7] (85, I7, J7, R7) 0 0
  refine ow_if_ne (tgt := 19) d_Mo_lostOdds_9 (by decide) (fun c => ?_) (fun c => ?_)
  · replace T := T.1 c
    refine ow_aload_n 0 rfl d_Mo_lostOdds_19 ?_
    refine ow_iload_n 1 rfl d_Mo_lostOdds_20 ?_
    refine ow_iload_n 2 rfl d_Mo_lostOdds_21 ?_
    refine ow_callV (b := 70) (cq := 12) (As := [.int p1, .int p2]) (rest := []) (d2 := d) d_Mo_lostOdds_22 l_Mo_402 v_Mo_blowAll (show 70 < 85 by decide) rfl (by decide) rfl (Nat.le_of_ble_eq_true rfl) (Nat.le_refl _) ⟨Nat.le_refl _, Nat.le_refl _⟩ (ow_mono T ?_)
    rintro r h' ⟨I8, J8, R8, rfl, rfl, hR8, T⟩
    show ow_AW ow_Y0 (ow_Z Q) M_Mo_lostOdds (d + 1) 0 0 25 [(0, .ref 70), (1, .int p1), (2, .int p2), (3, .int p3)] [] (85, I8, J8, R8) 0 0
    refine ow_aload_n 0 rfl d_Mo_lostOdds_25 ?_
    refine ow_gJ 208 d_Mo_lostOdds_26 rfl rfl (by decide) rfl rfl ?_
    refine ow_ldc2 (v := 1000000000000) d_Mo_lostOdds_29 k_Mo_400 ?_
    refine ow_iload_n 3 rfl d_Mo_lostOdds_32 ?_
    refine ow_callS (As := [.long (J8 70 39), .long 1000000000000, .int p3]) (rest := []) (d2 := d) d_Mo_lostOdds_33 l_Mo_370 v_Mo_lowest (Nat.le_of_ble_eq_true rfl) (Nat.le_refl _) ⟨Nat.le_refl _, Nat.le_refl _⟩ (ow_mono T ?_)
    rintro r h' ⟨r9, I9, J9, R9, rfl, rfl, hR9, T⟩
    show ow_AW ow_Y0 (ow_Z Q) M_Mo_lostOdds (d + 1) 0 0 36 [(0, .ref 70), (1, .int p1), (2, .int p2), (3, .int p3)] [.long r9] (85, I9, J9, R9) 0 0
    exact ow_lret d_Mo_lostOdds_36 rfl T
  · replace T := T.2 c
    refine ow_aload_n 0 rfl d_Mo_lostOdds_12 ?_
    refine ow_iconst (v := 1) (by decide) d_Mo_lostOdds_13 ?_
    refine ow_callV (b := 70) (cq := 12) (As := [.int 1]) (rest := []) (d2 := d) d_Mo_lostOdds_14 l_Mo_157 v_Mo_no (show 70 < 85 by decide) rfl (by decide) rfl (Nat.le_of_ble_eq_true rfl) (Nat.le_refl _) ⟨Nat.le_refl _, Nat.le_refl _⟩ (ow_mono T ?_)
    rintro r h' ⟨r10, I10, J10, R10, rfl, rfl, hR10, T⟩
    show ow_AW ow_Y0 (ow_Z Q) M_Mo_lostOdds (d + 1) 0 0 17 [(0, .ref 70), (1, .int p1), (2, .int p2), (3, .int p3)] [.int r10] (85, I10, J10, R10) 0 0
    refine ow_i2l d_Mo_lostOdds_17 ?_
    exact ow_lret d_Mo_lostOdds_18 rfl T
set_option maxRecDepth 4000 in
theorem t_Mo_blownOf_16 {d : Nat} {I : Nat → Nat → Int32} {J : Nat → Nat → Int64} {R : Nat → Nat → Option Nat} {Q : Option Value → ow_H → Prop}  {v3 : Int32} {v4 : Int32} {v5 : Int32}  (hR : ow_RF R) (T : (ow_AM M_Mo_hasBit d [.int v5, .int v3] (85, I, J, R) (fun r h' => ∃ (r1 : Int32) (I1 : Nat → Nat → Int32) (J1 : Nat → Nat → Int64) (R1 : Nat → Nat → Option Nat), r = some (.int r1) ∧ h' = (85, I1, J1, R1) ∧ ow_RF R1 ∧ ((¬ r1 = 0 → Q (some (.int (-2))) (85, I1, J1, R1)) ∧ (r1 = 0 → (ow_AM M_Mo_answerOf d [.ref 70, .ref 77, .int v3, .int v4] (85, I1, J1, R1) (fun r h' => ∃ (r2 : Int32) (I2 : Nat → Nat → Int32) (J2 : Nat → Nat → Int64) (R2 : Nat → Nat → Option Nat), r = some (.int r2) ∧ h' = (85, I2, J2, R2) ∧ ow_RF R2 ∧ ((0 ≤ r2 → (∀ (I3 : Nat → Nat → Int32), I3 = ow_u I2 70 40 (((75 * (I2 70 40)) + 74) - ((75 * (I2 70 40)) + 74) / 65537 * 65537) → (((I3 73 0) ≤ ((I3 70 40) - (I3 70 40) / 100 * 100) → (vp_in (6 + v3) 14 ∧ ((¬ (I3 77 (6 + v3).toNatClampNeg) = 0 → (vp_in (6 + v3) 14 ∧ ow_AW ow_Y0 (ow_Z Q) M_Mo_blownOf (d + 1) 0 0 16 [(0, .ref 70), (3, .int ((I3 77 (6 + v3).toNatClampNeg) - 1)), (4, .int r2), (5, .int (v5 ||| ((1 : Int32) <<< (v3 &&& 31))))] [] (85, I3, J2, R2) 0 0)) ∧ ((I3 77 (6 + v3).toNatClampNeg) = 0 → Q (some (.int r2)) (85, I3, J2, R2))))) ∧ (¬ (I3 73 0) ≤ ((I3 70 40) - (I3 70 40) / 100 * 100) → (vp_in (6 + v3) 14 ∧ ((¬ (I3 77 (6 + v3).toNatClampNeg) = 0 → (vp_in (6 + v3) 14 ∧ ow_AW ow_Y0 (ow_Z Q) M_Mo_blownOf (d + 1) 0 0 16 [(0, .ref 70), (3, .int ((I3 77 (6 + v3).toNatClampNeg) - 1)), (4, .int (1 - r2)), (5, .int (v5 ||| ((1 : Int32) <<< (v3 &&& 31))))] [] (85, I3, J2, R2) 0 0)) ∧ ((I3 77 (6 + v3).toNatClampNeg) = 0 → Q (some (.int (1 - r2))) (85, I3, J2, R2)))))))) ∧ (¬ 0 ≤ r2 → Q (some (.int (-2))) (85, I2, J2, R2)))))))))) : ow_AW ow_Y0 (ow_Z Q) M_Mo_blownOf (d + 1) 0 0 16 [(0, .ref 70), (3, .int v3), (4, .int v4), (5, .int v5)] [] (85, I, J, R) 0 0 := by
  refine ow_iload 3 rfl d_Mo_blownOf_16 ?_
  refine ow_iload_n 1 rfl d_Mo_blownOf_18 ?_
  refine ow_callS (As := [.int v5, .int v3]) (rest := []) (d2 := d) d_Mo_blownOf_19 l_Mo_231 v_Mo_hasBit (Nat.le_of_ble_eq_true rfl) (Nat.le_refl _) ⟨Nat.le_refl _, Nat.le_refl _⟩ (ow_mono T ?_)
  rintro r h' ⟨r1, I1, J1, R1, rfl, rfl, hR1, T⟩
  show ow_AW ow_Y0 (ow_Z Q) M_Mo_blownOf (d + 1) 0 0 22 [(0, .ref 70), (3, .int v3), (4, .int v4), (5, .int v5)] [.int r1] (85, I1, J1, R1) 0 0
  refine ow_if_ne (tgt := 124) d_Mo_blownOf_22 (by decide) (fun c => ?_) (fun c => ?_)
  · replace T := T.1 c
    refine ow_bipush (v := (-2)) (by decide) d_Mo_blownOf_124 ?_
    exact ow_iret d_Mo_blownOf_126 rfl T
  · replace T := T.2 c
    refine ow_iload 3 rfl d_Mo_blownOf_25 ?_
    refine ow_iconst (v := 1) (by decide) d_Mo_blownOf_27 ?_
    refine ow_iload_n 1 rfl d_Mo_blownOf_28 ?_
    refine ow_ishl d_Mo_blownOf_29 ?_
    refine ow_ior d_Mo_blownOf_30 ?_
    refine ow_istore (ls2 := [(5, .int (v5 ||| ((1 : Int32) <<< (v3 &&& 31)))), (0, .ref 70), (3, .int v3), (4, .int v4)]) d_Mo_blownOf_31 (by decide) rfl ?_
    refine ow_aload_n 1 rfl d_Mo_blownOf_33 ?_
    refine ow_aload_n 1 rfl d_Mo_blownOf_34 ?_
    refine ow_gR (a := 77) 188 d_Mo_blownOf_35 rfl rfl (by decide) rfl ⟨rfl, hR1 70 19 (by decide)⟩ ?_
    refine ow_iload_n 2 rfl d_Mo_blownOf_38 ?_
    refine ow_iload 3 rfl d_Mo_blownOf_39 ?_
    refine ow_callV (b := 70) (cq := 12) (As := [.ref 77, .int v3, .int v4]) (rest := []) (d2 := d) d_Mo_blownOf_41 l_Mo_257 v_Mo_answerOf (show 70 < 85 by decide) rfl (by decide) rfl (Nat.le_of_ble_eq_true rfl) (Nat.le_refl _) ⟨Nat.le_refl _, Nat.le_refl _⟩ (ow_mono T ?_)
    rintro r h' ⟨r2, I2, J2, R2, rfl, rfl, hR2, T⟩
    show ow_AW ow_Y0 (ow_Z Q) M_Mo_blownOf (d + 1) 0 0 44 [(5, .int (v5 ||| ((1 : Int32) <<< (v3 &&& 31)))), (0, .ref 70), (3, .int v3), (4, .int v4)] [.int r2] (85, I2, J2, R2) 0 0
    refine ow_istore (ls2 := [(4, .int r2), (5, .int (v5 ||| ((1 : Int32) <<< (v3 &&& 31)))), (0, .ref 70), (3, .int v3)]) d_Mo_blownOf_44 (by decide) rfl ?_
    refine ow_iload 0 rfl d_Mo_blownOf_46 ?_
    refine ow_if_ge (tgt := 54) d_Mo_blownOf_48 (by decide) (fun c => ?_) (fun c => ?_)
    · replace T := T.1 c
      refine ow_aload_n 2 rfl d_Mo_blownOf_54 ?_
      refine ow_bipush (v := 75) (by decide) d_Mo_blownOf_55 ?_
      refine ow_aload_n 2 rfl d_Mo_blownOf_57 ?_
      refine ow_gI 209 d_Mo_blownOf_58 rfl rfl (by decide) rfl (Or.inl rfl) ?_
      refine ow_imul d_Mo_blownOf_61 ?_
      refine ow_bipush (v := 74) (by decide) d_Mo_blownOf_62 ?_
      refine ow_iadd d_Mo_blownOf_64 ?_
      refine ow_ldcw (v := 65537) d_Mo_blownOf_65 k_Mo_409 ?_
      refine ow_irem (by decide) d_Mo_blownOf_68 ?_
      refine ow_pI 209 d_Mo_blownOf_69 rfl rfl (by decide) rfl rfl rfl ?_
      obtain ⟨I3, eI3⟩ : ∃ uu, uu = ow_u I2 70 40 (((75 * (I2 70 40)) + 74) - ((75 * (I2 70 40)) + 74) / 65537 * 65537) := ⟨_, rfl⟩
      replace T := T I3 eI3
      rw [← eI3]
      refine ow_aload_n 2 rfl d_Mo_blownOf_72 ?_
      refine ow_gI 209 d_Mo_blownOf_73 rfl rfl (by decide) rfl (Or.inl rfl) ?_
      refine ow_bipush (v := 100) (by decide) d_Mo_blownOf_76 ?_
      refine ow_irem (by decide) d_Mo_blownOf_78 ?_
      refine ow_aload_n 2 rfl d_Mo_blownOf_79 ?_
      refine ow_gR (a := 73) 184 d_Mo_blownOf_80 rfl rfl (by decide) rfl ⟨rfl, hR2 70 15 (by decide)⟩ ?_
      refine ow_iconst (v := 0) (by decide) d_Mo_blownOf_83 ?_
      refine ow_hiaload d_Mo_blownOf_84 (by decide) rfl rfl (show vp_in (0 : Int32) 146 by unfold vp_in; decide) ?_
      show ow_AW ow_Y0 (ow_Z Q) M_Mo_blownOf (d + 1) 0 0 85 [(4, .int r2), (5, .int (v5 ||| ((1 : Int32) <<< (v3 &&& 31)))), (0, .ref 70), (3, .int v3)] [.int (I3 73 0), .int ((I3 70 40) - (I3 70 40) / 100 * 100)] (85, I3, J2, R2) 0 0
      refine ow_icmp_ge (tgt := 94) d_Mo_blownOf_85 (by decide) (fun c => ?_) (fun c => ?_)
      · replace T := T.1 c
        refine ow_aload_n 2 rfl d_Mo_blownOf_94 ?_
        refine ow_gR (a := 77) 188 d_Mo_blownOf_95 rfl rfl (by decide) rfl ⟨rfl, hR2 70 19 (by decide)⟩ ?_
        refine ow_bipush (v := 6) (by decide) d_Mo_blownOf_98 ?_
        refine ow_iload_n 3 rfl d_Mo_blownOf_100 ?_
        refine ow_iadd d_Mo_blownOf_101 ?_
        obtain ⟨cI, T⟩ := T
        refine ow_hiaload d_Mo_blownOf_102 (by decide) rfl rfl cI ?_
        refine ow_if_ne (tgt := 109) d_Mo_blownOf_103 (by decide) (fun c => ?_) (fun c => ?_)
        · replace T := T.1 c
          refine ow_aload_n 2 rfl d_Mo_blownOf_109 ?_
          refine ow_gR (a := 77) 188 d_Mo_blownOf_110 rfl rfl (by decide) rfl ⟨rfl, hR2 70 19 (by decide)⟩ ?_
          refine ow_bipush (v := 6) (by decide) d_Mo_blownOf_113 ?_
          refine ow_iload_n 3 rfl d_Mo_blownOf_115 ?_
          refine ow_iadd d_Mo_blownOf_116 ?_
          obtain ⟨cI, T⟩ := T
          refine ow_hiaload d_Mo_blownOf_117 (by decide) rfl rfl cI ?_
          refine ow_iconst (v := 1) (by decide) d_Mo_blownOf_118 ?_
          refine ow_isub d_Mo_blownOf_119 ?_
          refine ow_istore_n (ls2 := [(3, .int ((I3 77 (6 + v3).toNatClampNeg) - 1)), (4, .int r2), (5, .int (v5 ||| ((1 : Int32) <<< (v3 &&& 31)))), (0, .ref 70)]) d_Mo_blownOf_120 (by decide) rfl ?_
          refine ow_goto (tgt := 16) d_Mo_blownOf_121 (by decide) ?_
          refine ow_sub [3, 0, 1, 2] rfl ?_
          exact T
        · replace T := T.2 c
          refine ow_iload 0 rfl d_Mo_blownOf_106 ?_
          exact ow_iret d_Mo_blownOf_108 rfl T
      · replace T := T.2 c
        refine ow_iconst (v := 1) (by decide) d_Mo_blownOf_88 ?_
        refine ow_iload 0 rfl d_Mo_blownOf_89 ?_
        refine ow_isub d_Mo_blownOf_91 ?_
        refine ow_istore (ls2 := [(4, .int (1 - r2)), (5, .int (v5 ||| ((1 : Int32) <<< (v3 &&& 31)))), (0, .ref 70), (3, .int v3)]) d_Mo_blownOf_92 (by decide) rfl ?_
        refine ow_aload_n 2 rfl d_Mo_blownOf_94 ?_
        refine ow_gR (a := 77) 188 d_Mo_blownOf_95 rfl rfl (by decide) rfl ⟨rfl, hR2 70 19 (by decide)⟩ ?_
        refine ow_bipush (v := 6) (by decide) d_Mo_blownOf_98 ?_
        refine ow_iload_n 3 rfl d_Mo_blownOf_100 ?_
        refine ow_iadd d_Mo_blownOf_101 ?_
        obtain ⟨cI, T⟩ := T
        refine ow_hiaload d_Mo_blownOf_102 (by decide) rfl rfl cI ?_
        refine ow_if_ne (tgt := 109) d_Mo_blownOf_103 (by decide) (fun c => ?_) (fun c => ?_)
        · replace T := T.1 c
          refine ow_aload_n 2 rfl d_Mo_blownOf_109 ?_
          refine ow_gR (a := 77) 188 d_Mo_blownOf_110 rfl rfl (by decide) rfl ⟨rfl, hR2 70 19 (by decide)⟩ ?_
          refine ow_bipush (v := 6) (by decide) d_Mo_blownOf_113 ?_
          refine ow_iload_n 3 rfl d_Mo_blownOf_115 ?_
          refine ow_iadd d_Mo_blownOf_116 ?_
          obtain ⟨cI, T⟩ := T
          refine ow_hiaload d_Mo_blownOf_117 (by decide) rfl rfl cI ?_
          refine ow_iconst (v := 1) (by decide) d_Mo_blownOf_118 ?_
          refine ow_isub d_Mo_blownOf_119 ?_
          refine ow_istore_n (ls2 := [(3, .int ((I3 77 (6 + v3).toNatClampNeg) - 1)), (4, .int (1 - r2)), (5, .int (v5 ||| ((1 : Int32) <<< (v3 &&& 31)))), (0, .ref 70)]) d_Mo_blownOf_120 (by decide) rfl ?_
          refine ow_goto (tgt := 16) d_Mo_blownOf_121 (by decide) ?_
          refine ow_sub [3, 0, 1, 2] rfl ?_
          exact T
        · replace T := T.2 c
          refine ow_iload 0 rfl d_Mo_blownOf_106 ?_
          exact ow_iret d_Mo_blownOf_108 rfl T
    · replace T := T.2 c
      refine ow_bipush (v := (-2)) (by decide) d_Mo_blownOf_51 ?_
      exact ow_iret d_Mo_blownOf_53 rfl T
set_option maxRecDepth 4000 in
theorem t_Mo_blownOf {d : Nat} {I : Nat → Nat → Int32} {J : Nat → Nat → Int64} {R : Nat → Nat → Option Nat} {Q : Option Value → ow_H → Prop} {p1 : Int32} {p2 : Int32}  (hR : ow_RF R) (T : ((p2 = 0 → ow_AW ow_Y0 (ow_Z Q) M_Mo_blownOf (d + 1) 0 0 16 [(0, .ref 70), (3, .int p1), (4, .int 0), (5, .int 0)] [] (85, I, J, R) 0 0) ∧ (¬ p2 = 0 → ow_AW ow_Y0 (ow_Z Q) M_Mo_blownOf (d + 1) 0 0 16 [(0, .ref 70), (3, .int p1), (4, .int 1), (5, .int 0)] [] (85, I, J, R) 0 0))) : ow_AM M_Mo_blownOf (d + 1) [.ref 70, .int p1, .int p2] (85, I, J, R) Q := by
  refine ow_enter (by decide) (Nat.le_of_ble_eq_true rfl) ?_
  show ow_AW ow_Y0 (ow_Z Q) M_Mo_blownOf (d + 1) 0 0 0 [(0, .ref 70), (1, .int p1), (2, .int p2)] [] (85, I, J, R) 0 0
  refine ow_iload_n 1 rfl d_Mo_blownOf_0 ?_
  refine ow_istore_n (ls2 := [(3, .int p1), (0, .ref 70), (1, .int p1), (2, .int p2)]) d_Mo_blownOf_1 (by decide) rfl ?_
  refine ow_iload_n 3 rfl d_Mo_blownOf_2 ?_
  refine ow_if_eq (tgt := 10) d_Mo_blownOf_3 (by decide) (fun c => ?_) (fun c => ?_)
  · replace T := T.1 c
    refine ow_iconst (v := 0) (by decide) d_Mo_blownOf_10 ?_
    refine ow_istore (ls2 := [(4, .int 0), (3, .int p1), (0, .ref 70), (1, .int p1), (2, .int p2)]) d_Mo_blownOf_11 (by decide) rfl ?_
    refine ow_iconst (v := 0) (by decide) d_Mo_blownOf_13 ?_
    refine ow_istore (ls2 := [(5, .int 0), (4, .int 0), (3, .int p1), (0, .ref 70), (1, .int p1), (2, .int p2)]) d_Mo_blownOf_14 (by decide) rfl ?_
    refine ow_sub [3, 2, 1, 0] rfl ?_
    exact T
  · replace T := T.2 c
    refine ow_iconst (v := 1) (by decide) d_Mo_blownOf_6 ?_
    refine ow_goto (tgt := 11) d_Mo_blownOf_7 (by decide) ?_
    refine ow_istore (ls2 := [(4, .int 1), (3, .int p1), (0, .ref 70), (1, .int p1), (2, .int p2)]) d_Mo_blownOf_11 (by decide) rfl ?_
    refine ow_iconst (v := 0) (by decide) d_Mo_blownOf_13 ?_
    refine ow_istore (ls2 := [(5, .int 0), (4, .int 1), (3, .int p1), (0, .ref 70), (1, .int p1), (2, .int p2)]) d_Mo_blownOf_14 (by decide) rfl ?_
    refine ow_sub [3, 2, 1, 0] rfl ?_
    exact T
set_option maxRecDepth 4000 in
theorem t_Mo_blown {d : Nat} {I : Nat → Nat → Int32} {J : Nat → Nat → Int64} {R : Nat → Nat → Option Nat} {Q : Option Value → ow_H → Prop} {p1 : Int32} {p2 : Int32} {p3 : Int32}  (hR : ow_RF R) (T : (ow_AM M_Mo_good d [.ref 70] (85, I, J, R) (fun r h' => ∃ (I9 : Nat → Nat → Int32) (J9 : Nat → Nat → Int64) (R9 : Nat → Nat → Option Nat), r = none ∧ h' = (85, I9, J9, R9) ∧ ow_RF R9 ∧ (ow_AM M_Mo_isFolly d [.ref 70, .int p1] (85, I9, J9, R9) (fun r h' => ∃ (r10 : Int32) (I10 : Nat → Nat → Int32) (J10 : Nat → Nat → Int64) (R10 : Nat → Nat → Option Nat), r = some (.int r10) ∧ h' = (85, I10, J10, R10) ∧ ow_RF R10 ∧ (ow_AM M_Mo_in d [.int p3, .int 0, .int 65536] (85, I10, J10, R10) (fun r h' => ∃ (r11 : Int32) (I11 : Nat → Nat → Int32) (J11 : Nat → Nat → Int64) (R11 : Nat → Nat → Option Nat), r = some (.int r11) ∧ h' = (85, I11, J11, R11) ∧ ow_RF R11 ∧ (ow_AM M_Mo_why d [.ref 70, .int r10, .int r11] (85, I11, J11, R11) (fun r h' => ∃ (r12 : Int32) (I12 : Nat → Nat → Int32) (J12 : Nat → Nat → Int64) (R12 : Nat → Nat → Option Nat), r = some (.int r12) ∧ h' = (85, I12, J12, R12) ∧ ow_RF R12 ∧ ((r12 = 0 → (ow_AM M_Mo_asToldShapes d [.ref 70] (85, I12, J12, R12) (fun r h' => ∃ (I13 : Nat → Nat → Int32) (J13 : Nat → Nat → Int64) (R13 : Nat → Nat → Option Nat), r = none ∧ h' = (85, I13, J13, R13) ∧ ow_RF R13 ∧ (∀ (I14 : Nat → Nat → Int32), I14 = ow_u I13 70 40 p3 → (ow_AM M_Mo_blownOf d [.ref 70, .int p1, .int p2] (85, I14, J13, R13) (fun r h' => ∃ (r15 : Int32) (I15 : Nat → Nat → Int32) (J15 : Nat → Nat → Int64) (R15 : Nat → Nat → Option Nat), r = some (.int r15) ∧ h' = (85, I15, J15, R15) ∧ ow_RF R15 ∧ Q (some (.int r15)) (85, I15, J15, R15))))))) ∧ (¬ r12 = 0 → (ow_AM M_Mo_no d [.ref 70, .int r12] (85, I12, J12, R12) (fun r h' => ∃ (r16 : Int32) (I16 : Nat → Nat → Int32) (J16 : Nat → Nat → Int64) (R16 : Nat → Nat → Option Nat), r = some (.int r16) ∧ h' = (85, I16, J16, R16) ∧ ow_RF R16 ∧ Q (some (.int r16)) (85, I16, J16, R16)))))))))))))) : ow_AM M_Mo_blown (d + 1) [.ref 70, .int p1, .int p2, .int p3] (85, I, J, R) Q := by
  refine ow_enter (by decide) (Nat.le_of_ble_eq_true rfl) ?_
  show ow_AW ow_Y0 (ow_Z Q) M_Mo_blown (d + 1) 0 0 0 [(0, .ref 70), (1, .int p1), (2, .int p2), (3, .int p3)] [] (85, I, J, R) 0 0
  refine ow_aload_n 0 rfl d_Mo_blown_0 ?_
  refine ow_callV (b := 70) (cq := 12) (As := []) (rest := []) (d2 := d) d_Mo_blown_1 l_Mo_154 v_Mo_good (show 70 < 85 by decide) rfl (by decide) rfl (Nat.le_of_ble_eq_true rfl) (Nat.le_refl _) ⟨Nat.le_refl _, Nat.le_refl _⟩ (ow_mono T ?_)
  rintro r h' ⟨I9, J9, R9, rfl, rfl, hR9, T⟩
  show ow_AW ow_Y0 (ow_Z Q) M_Mo_blown (d + 1) 0 0 4 [(0, .ref 70), (1, .int p1), (2, .int p2), (3, .int p3)] [] (85, I9, J9, R9) 0 0
  refine ow_aload_n 0 rfl d_Mo_blown_4 ?_
  refine ow_aload_n 0 rfl d_Mo_blown_5 ?_
  refine ow_iload_n 1 rfl d_Mo_blown_6 ?_
  refine ow_callV (b := 70) (cq := 12) (As := [.int p1]) (rest := [.ref 70]) (d2 := d) d_Mo_blown_7 l_Mo_272 v_Mo_isFolly (show 70 < 85 by decide) rfl (by decide) rfl (Nat.le_of_ble_eq_true rfl) (Nat.le_refl _) ⟨Nat.le_refl _, Nat.le_refl _⟩ (ow_mono T ?_)
  rintro r h' ⟨r10, I10, J10, R10, rfl, rfl, hR10, T⟩
  show ow_AW ow_Y0 (ow_Z Q) M_Mo_blown (d + 1) 0 0 10 [(0, .ref 70), (1, .int p1), (2, .int p2), (3, .int p3)] [.int r10, .ref 70] (85, I10, J10, R10) 0 0
  refine ow_iload_n 3 rfl d_Mo_blown_10 ?_
  refine ow_iconst (v := 0) (by decide) d_Mo_blown_11 ?_
  refine ow_ldcw (v := 65536) d_Mo_blown_12 k_Mo_410 ?_
  refine ow_callS (As := [.int p3, .int 0, .int 65536]) (rest := [.int r10, .ref 70]) (d2 := d) d_Mo_blown_15 l_Mo_142 v_Mo_in (Nat.le_of_ble_eq_true rfl) (Nat.le_refl _) ⟨Nat.le_refl _, Nat.le_refl _⟩ (ow_mono T ?_)
  rintro r h' ⟨r11, I11, J11, R11, rfl, rfl, hR11, T⟩
  show ow_AW ow_Y0 (ow_Z Q) M_Mo_blown (d + 1) 0 0 18 [(0, .ref 70), (1, .int p1), (2, .int p2), (3, .int p3)] [.int r11, .int r10, .ref 70] (85, I11, J11, R11) 0 0
  refine ow_callV (b := 70) (cq := 12) (As := [.int r10, .int r11]) (rest := []) (d2 := d) d_Mo_blown_18 l_Mo_323 v_Mo_why (show 70 < 85 by decide) rfl (by decide) rfl (Nat.le_of_ble_eq_true rfl) (Nat.le_refl _) ⟨Nat.le_refl _, Nat.le_refl _⟩ (ow_mono T ?_)
  rintro r h' ⟨r12, I12, J12, R12, rfl, rfl, hR12, T⟩
  show ow_AW ow_Y0 (ow_Z Q) M_Mo_blown (d + 1) 0 0 21 [(0, .ref 70), (1, .int p1), (2, .int p2), (3, .int p3)] [.int r12] (85, I12, J12, R12) 0 0
  refine ow_istore (ls2 := [(4, .int r12), (0, .ref 70), (1, .int p1), (2, .int p2), (3, .int p3)]) d_Mo_blown_21 (by decide) rfl ?_
  refine ow_iload 0 rfl d_Mo_blown_23 ?_
  refine ow_if_eq (tgt := 35) d_Mo_blown_25 (by decide) (fun c => ?_) (fun c => ?_)
  · replace T := T.1 c
    refine ow_aload_n 1 rfl d_Mo_blown_35 ?_
    refine ow_callV (b := 70) (cq := 12) (As := []) (rest := []) (d2 := d) d_Mo_blown_36 l_Mo_281 v_Mo_asToldShapes (show 70 < 85 by decide) rfl (by decide) rfl (Nat.le_of_ble_eq_true rfl) (Nat.le_refl _) ⟨Nat.le_refl _, Nat.le_refl _⟩ (ow_mono T ?_)
    rintro r h' ⟨I13, J13, R13, rfl, rfl, hR13, T⟩
    show ow_AW ow_Y0 (ow_Z Q) M_Mo_blown (d + 1) 0 0 39 [(4, .int r12), (0, .ref 70), (1, .int p1), (2, .int p2), (3, .int p3)] [] (85, I13, J13, R13) 0 0
    refine ow_aload_n 1 rfl d_Mo_blown_39 ?_
    refine ow_iload_n 4 rfl d_Mo_blown_40 ?_
    refine ow_pI 209 d_Mo_blown_41 rfl rfl (by decide) rfl rfl rfl ?_
    obtain ⟨I14, eI14⟩ : ∃ uu, uu = ow_u I13 70 40 p3 := ⟨_, rfl⟩
    replace T := T I14 eI14
    rw [← eI14]
    refine ow_aload_n 1 rfl d_Mo_blown_44 ?_
    refine ow_iload_n 2 rfl d_Mo_blown_45 ?_
    refine ow_iload_n 3 rfl d_Mo_blown_46 ?_
    refine ow_callV (b := 70) (cq := 12) (As := [.int p1, .int p2]) (rest := []) (d2 := d) d_Mo_blown_47 l_Mo_411 v_Mo_blownOf (show 70 < 85 by decide) rfl (by decide) rfl (Nat.le_of_ble_eq_true rfl) (Nat.le_refl _) ⟨Nat.le_refl _, Nat.le_refl _⟩ (ow_mono T ?_)
    rintro r h' ⟨r15, I15, J15, R15, rfl, rfl, hR15, T⟩
    show ow_AW ow_Y0 (ow_Z Q) M_Mo_blown (d + 1) 0 0 50 [(4, .int r12), (0, .ref 70), (1, .int p1), (2, .int p2), (3, .int p3)] [.int r15] (85, I15, J15, R15) 0 0
    exact ow_iret d_Mo_blown_50 rfl T
  · replace T := T.2 c
    refine ow_aload_n 1 rfl d_Mo_blown_28 ?_
    refine ow_iload 0 rfl d_Mo_blown_29 ?_
    refine ow_callV (b := 70) (cq := 12) (As := [.int r12]) (rest := []) (d2 := d) d_Mo_blown_31 l_Mo_157 v_Mo_no (show 70 < 85 by decide) rfl (by decide) rfl (Nat.le_of_ble_eq_true rfl) (Nat.le_refl _) ⟨Nat.le_refl _, Nat.le_refl _⟩ (ow_mono T ?_)
    rintro r h' ⟨r16, I16, J16, R16, rfl, rfl, hR16, T⟩
    show ow_AW ow_Y0 (ow_Z Q) M_Mo_blown (d + 1) 0 0 34 [(4, .int r12), (0, .ref 70), (1, .int p1), (2, .int p2), (3, .int p3)] [.int r16] (85, I16, J16, R16) 0 0
    exact ow_iret d_Mo_blown_34 rfl T
set_option maxRecDepth 4000 in
theorem t_Mo_yeses_69 {d : Nat} {I : Nat → Nat → Int32} {J : Nat → Nat → Int64} {R : Nat → Nat → Option Nat} {Q : Option Value → ow_H → Prop}  {v1 : Int32} {v2 : Int32} {v4 : Int32} {v6 : Int32} {v7 : Int32}  (hR : ow_RF R) (T : ((v4 ≤ v7 → Q (some (.int v6)) (85, I, J, R)) ∧ (¬ v4 ≤ v7 → (ow_AM M_Mo_blownOf d [.ref 70, .int v1, .int v2] (85, I, J, R) (fun r h' => ∃ (r17 : Int32) (I17 : Nat → Nat → Int32) (J17 : Nat → Nat → Int64) (R17 : Nat → Nat → Option Nat), r = some (.int r17) ∧ h' = (85, I17, J17, R17) ∧ ow_RF R17 ∧ ((¬ r17 = 1 → ow_AW ow_Y0 (ow_Z Q) M_Mo_yeses (d + 1) 0 0 69 [(0, .ref 70), (1, .int v1), (2, .int v2), (4, .int v4), (6, .int (v6 + 0)), (7, .int (v7 + 1))] [] (85, I17, J17, R17) 0 0) ∧ (r17 = 1 → ow_AW ow_Y0 (ow_Z Q) M_Mo_yeses (d + 1) 0 0 69 [(0, .ref 70), (1, .int v1), (2, .int v2), (4, .int v4), (6, .int (v6 + 1)), (7, .int (v7 + 1))] [] (85, I17, J17, R17) 0 0))))))) : ow_AW ow_Y0 (ow_Z Q) M_Mo_yeses (d + 1) 0 0 69 [(0, .ref 70), (1, .int v1), (2, .int v2), (4, .int v4), (6, .int v6), (7, .int v7)] [] (85, I, J, R) 0 0 := by
  refine ow_iload 5 rfl d_Mo_yeses_69 ?_
  refine ow_iload 3 rfl d_Mo_yeses_71 ?_
  refine ow_icmp_ge (tgt := 102) d_Mo_yeses_73 (by decide) (fun c => ?_) (fun c => ?_)
  · replace T := T.1 c
    refine ow_iload 4 rfl d_Mo_yeses_102 ?_
    exact ow_iret d_Mo_yeses_104 rfl T
  · replace T := T.2 c
    refine ow_iload 4 rfl d_Mo_yeses_76 ?_
    refine ow_aload_n 0 rfl d_Mo_yeses_78 ?_
    refine ow_iload_n 1 rfl d_Mo_yeses_79 ?_
    refine ow_iload_n 2 rfl d_Mo_yeses_80 ?_
    refine ow_callV (b := 70) (cq := 12) (As := [.int v1, .int v2]) (rest := [.int v6]) (d2 := d) d_Mo_yeses_81 l_Mo_411 v_Mo_blownOf (show 70 < 85 by decide) rfl (by decide) rfl (Nat.le_of_ble_eq_true rfl) (Nat.le_refl _) ⟨Nat.le_refl _, Nat.le_refl _⟩ (ow_mono T ?_)
    rintro r h' ⟨r17, I17, J17, R17, rfl, rfl, hR17, T⟩
    show ow_AW ow_Y0 (ow_Z Q) M_Mo_yeses (d + 1) 0 0 84 [(0, .ref 70), (1, .int v1), (2, .int v2), (4, .int v4), (6, .int v6), (7, .int v7)] [.int r17, .int v6] (85, I17, J17, R17) 0 0
    refine ow_iconst (v := 1) (by decide) d_Mo_yeses_84 ?_
    refine ow_icmp_ne (tgt := 92) d_Mo_yeses_85 (by decide) (fun c => ?_) (fun c => ?_)
    · replace T := T.1 c
      refine ow_iconst (v := 0) (by decide) d_Mo_yeses_92 ?_
      refine ow_iadd d_Mo_yeses_93 ?_
      refine ow_istore (ls2 := [(6, .int (v6 + 0)), (0, .ref 70), (1, .int v1), (2, .int v2), (4, .int v4), (7, .int v7)]) d_Mo_yeses_94 (by decide) rfl ?_
      refine ow_iinc 5 (v := (v7 + 1)) (ls2 := [(7, .int (v7 + 1)), (6, .int (v6 + 0)), (0, .ref 70), (1, .int v1), (2, .int v2), (4, .int v4)]) d_Mo_yeses_96 rfl rfl (by decide) rfl ?_
      refine ow_goto (tgt := 69) d_Mo_yeses_99 (by decide) ?_
      refine ow_sub [2, 3, 4, 5, 1, 0] rfl ?_
      exact T
    · replace T := T.2 c
      refine ow_iconst (v := 1) (by decide) d_Mo_yeses_88 ?_
      refine ow_goto (tgt := 93) d_Mo_yeses_89 (by decide) ?_
      refine ow_iadd d_Mo_yeses_93 ?_
      refine ow_istore (ls2 := [(6, .int (v6 + 1)), (0, .ref 70), (1, .int v1), (2, .int v2), (4, .int v4), (7, .int v7)]) d_Mo_yeses_94 (by decide) rfl ?_
      refine ow_iinc 5 (v := (v7 + 1)) (ls2 := [(7, .int (v7 + 1)), (6, .int (v6 + 1)), (0, .ref 70), (1, .int v1), (2, .int v2), (4, .int v4)]) d_Mo_yeses_96 rfl rfl (by decide) rfl ?_
      refine ow_goto (tgt := 69) d_Mo_yeses_99 (by decide) ?_
      refine ow_sub [2, 3, 4, 5, 1, 0] rfl ?_
      exact T
set_option maxRecDepth 4000 in
theorem t_Mo_yeses {d : Nat} {I : Nat → Nat → Int32} {J : Nat → Nat → Int64} {R : Nat → Nat → Option Nat} {Q : Option Value → ow_H → Prop} {p1 : Int32} {p2 : Int32} {p3 : Int32} {p4 : Int32}  (hR : ow_RF R) (T : (ow_AM M_Mo_good d [.ref 70] (85, I, J, R) (fun r h' => ∃ (I18 : Nat → Nat → Int32) (J18 : Nat → Nat → Int64) (R18 : Nat → Nat → Option Nat), r = none ∧ h' = (85, I18, J18, R18) ∧ ow_RF R18 ∧ (ow_AM M_Mo_isFolly d [.ref 70, .int p1] (85, I18, J18, R18) (fun r h' => ∃ (r19 : Int32) (I19 : Nat → Nat → Int32) (J19 : Nat → Nat → Int64) (R19 : Nat → Nat → Option Nat), r = some (.int r19) ∧ h' = (85, I19, J19, R19) ∧ ow_RF R19 ∧ (ow_AM M_Mo_in d [.int p3, .int 0, .int 65536] (85, I19, J19, R19) (fun r h' => ∃ (r20 : Int32) (I20 : Nat → Nat → Int32) (J20 : Nat → Nat → Int64) (R20 : Nat → Nat → Option Nat), r = some (.int r20) ∧ h' = (85, I20, J20, R20) ∧ ow_RF R20 ∧ ((r20 = 0 → (ow_AM M_Mo_why d [.ref 70, .int r19, .int 0] (85, I20, J20, R20) (fun r h' => ∃ (r21 : Int32) (I21 : Nat → Nat → Int32) (J21 : Nat → Nat → Int64) (R21 : Nat → Nat → Option Nat), r = some (.int r21) ∧ h' = (85, I21, J21, R21) ∧ ow_RF R21 ∧ ((r21 = 0 → (ow_AM M_Mo_asToldShapes d [.ref 70] (85, I21, J21, R21) (fun r h' => ∃ (I22 : Nat → Nat → Int32) (J22 : Nat → Nat → Int64) (R22 : Nat → Nat → Option Nat), r = none ∧ h' = (85, I22, J22, R22) ∧ ow_RF R22 ∧ (∀ (I23 : Nat → Nat → Int32), I23 = ow_u I22 70 40 p3 → ow_AW ow_Y0 (ow_Z Q) M_Mo_yeses (d + 1) 0 0 69 [(0, .ref 70), (1, .int p1), (2, .int p2), (4, .int p4), (6, .int 0), (7, .int 0)] [] (85, I23, J22, R22) 0 0)))) ∧ (¬ r21 = 0 → (ow_AM M_Mo_no d [.ref 70, .int r21] (85, I21, J21, R21) (fun r h' => ∃ (r24 : Int32) (I24 : Nat → Nat → Int32) (J24 : Nat → Nat → Int64) (R24 : Nat → Nat → Option Nat), r = some (.int r24) ∧ h' = (85, I24, J24, R24) ∧ ow_RF R24 ∧ Q (some (.int r24)) (85, I24, J24, R24)))))))) ∧ (¬ r20 = 0 → (ow_AM M_Mo_in d [.int p4, .int 0, .int 60] (85, I20, J20, R20) (fun r h' => ∃ (r25 : Int32) (I25 : Nat → Nat → Int32) (J25 : Nat → Nat → Int64) (R25 : Nat → Nat → Option Nat), r = some (.int r25) ∧ h' = (85, I25, J25, R25) ∧ ow_RF R25 ∧ ((r25 = 0 → (ow_AM M_Mo_why d [.ref 70, .int r19, .int 0] (85, I25, J25, R25) (fun r h' => ∃ (r26 : Int32) (I26 : Nat → Nat → Int32) (J26 : Nat → Nat → Int64) (R26 : Nat → Nat → Option Nat), r = some (.int r26) ∧ h' = (85, I26, J26, R26) ∧ ow_RF R26 ∧ ((r26 = 0 → (ow_AM M_Mo_asToldShapes d [.ref 70] (85, I26, J26, R26) (fun r h' => ∃ (I27 : Nat → Nat → Int32) (J27 : Nat → Nat → Int64) (R27 : Nat → Nat → Option Nat), r = none ∧ h' = (85, I27, J27, R27) ∧ ow_RF R27 ∧ (∀ (I28 : Nat → Nat → Int32), I28 = ow_u I27 70 40 p3 → ow_AW ow_Y0 (ow_Z Q) M_Mo_yeses (d + 1) 0 0 69 [(0, .ref 70), (1, .int p1), (2, .int p2), (4, .int p4), (6, .int 0), (7, .int 0)] [] (85, I28, J27, R27) 0 0)))) ∧ (¬ r26 = 0 → (ow_AM M_Mo_no d [.ref 70, .int r26] (85, I26, J26, R26) (fun r h' => ∃ (r29 : Int32) (I29 : Nat → Nat → Int32) (J29 : Nat → Nat → Int64) (R29 : Nat → Nat → Option Nat), r = some (.int r29) ∧ h' = (85, I29, J29, R29) ∧ ow_RF R29 ∧ Q (some (.int r29)) (85, I29, J29, R29)))))))) ∧ (¬ r25 = 0 → (ow_AM M_Mo_why d [.ref 70, .int r19, .int 1] (85, I25, J25, R25) (fun r h' => ∃ (r30 : Int32) (I30 : Nat → Nat → Int32) (J30 : Nat → Nat → Int64) (R30 : Nat → Nat → Option Nat), r = some (.int r30) ∧ h' = (85, I30, J30, R30) ∧ ow_RF R30 ∧ ((r30 = 0 → (ow_AM M_Mo_asToldShapes d [.ref 70] (85, I30, J30, R30) (fun r h' => ∃ (I31 : Nat → Nat → Int32) (J31 : Nat → Nat → Int64) (R31 : Nat → Nat → Option Nat), r = none ∧ h' = (85, I31, J31, R31) ∧ ow_RF R31 ∧ (∀ (I32 : Nat → Nat → Int32), I32 = ow_u I31 70 40 p3 → ow_AW ow_Y0 (ow_Z Q) M_Mo_yeses (d + 1) 0 0 69 [(0, .ref 70), (1, .int p1), (2, .int p2), (4, .int p4), (6, .int 0), (7, .int 0)] [] (85, I32, J31, R31) 0 0)))) ∧ (¬ r30 = 0 → (ow_AM M_Mo_no d [.ref 70, .int r30] (85, I30, J30, R30) (fun r h' => ∃ (r33 : Int32) (I33 : Nat → Nat → Int32) (J33 : Nat → Nat → Int64) (R33 : Nat → Nat → Option Nat), r = some (.int r33) ∧ h' = (85, I33, J33, R33) ∧ ow_RF R33 ∧ Q (some (.int r33)) (85, I33, J33, R33)))))))))))))))))))) : ow_AM M_Mo_yeses (d + 1) [.ref 70, .int p1, .int p2, .int p3, .int p4] (85, I, J, R) Q := by
  refine ow_enter (by decide) (Nat.le_of_ble_eq_true rfl) ?_
  show ow_AW ow_Y0 (ow_Z Q) M_Mo_yeses (d + 1) 0 0 0 [(0, .ref 70), (1, .int p1), (2, .int p2), (3, .int p3), (4, .int p4)] [] (85, I, J, R) 0 0
  refine ow_aload_n 0 rfl d_Mo_yeses_0 ?_
  refine ow_callV (b := 70) (cq := 12) (As := []) (rest := []) (d2 := d) d_Mo_yeses_1 l_Mo_154 v_Mo_good (show 70 < 85 by decide) rfl (by decide) rfl (Nat.le_of_ble_eq_true rfl) (Nat.le_refl _) ⟨Nat.le_refl _, Nat.le_refl _⟩ (ow_mono T ?_)
  rintro r h' ⟨I18, J18, R18, rfl, rfl, hR18, T⟩
  show ow_AW ow_Y0 (ow_Z Q) M_Mo_yeses (d + 1) 0 0 4 [(0, .ref 70), (1, .int p1), (2, .int p2), (3, .int p3), (4, .int p4)] [] (85, I18, J18, R18) 0 0
  refine ow_aload_n 0 rfl d_Mo_yeses_4 ?_
  refine ow_aload_n 0 rfl d_Mo_yeses_5 ?_
  refine ow_iload_n 1 rfl d_Mo_yeses_6 ?_
  refine ow_callV (b := 70) (cq := 12) (As := [.int p1]) (rest := [.ref 70]) (d2 := d) d_Mo_yeses_7 l_Mo_272 v_Mo_isFolly (show 70 < 85 by decide) rfl (by decide) rfl (Nat.le_of_ble_eq_true rfl) (Nat.le_refl _) ⟨Nat.le_refl _, Nat.le_refl _⟩ (ow_mono T ?_)
  rintro r h' ⟨r19, I19, J19, R19, rfl, rfl, hR19, T⟩
  show ow_AW ow_Y0 (ow_Z Q) M_Mo_yeses (d + 1) 0 0 10 [(0, .ref 70), (1, .int p1), (2, .int p2), (3, .int p3), (4, .int p4)] [.int r19, .ref 70] (85, I19, J19, R19) 0 0
  refine ow_iload_n 3 rfl d_Mo_yeses_10 ?_
  refine ow_iconst (v := 0) (by decide) d_Mo_yeses_11 ?_
  refine ow_ldcw (v := 65536) d_Mo_yeses_12 k_Mo_410 ?_
  refine ow_callS (As := [.int p3, .int 0, .int 65536]) (rest := [.int r19, .ref 70]) (d2 := d) d_Mo_yeses_15 l_Mo_142 v_Mo_in (Nat.le_of_ble_eq_true rfl) (Nat.le_refl _) ⟨Nat.le_refl _, Nat.le_refl _⟩ (ow_mono T ?_)
  rintro r h' ⟨r20, I20, J20, R20, rfl, rfl, hR20, T⟩
  show ow_AW ow_Y0 (ow_Z Q) M_Mo_yeses (d + 1) 0 0 18 [(0, .ref 70), (1, .int p1), (2, .int p2), (3, .int p3), (4, .int p4)] [.int r20, .int r19, .ref 70] (85, I20, J20, R20) 0 0
  refine ow_if_eq (tgt := 36) d_Mo_yeses_18 (by decide) (fun c => ?_) (fun c => ?_)
  · replace T := T.1 c
    refine ow_iconst (v := 0) (by decide) d_Mo_yeses_36 ?_
    refine ow_callV (b := 70) (cq := 12) (As := [.int r19, .int 0]) (rest := []) (d2 := d) d_Mo_yeses_37 l_Mo_323 v_Mo_why (show 70 < 85 by decide) rfl (by decide) rfl (Nat.le_of_ble_eq_true rfl) (Nat.le_refl _) ⟨Nat.le_refl _, Nat.le_refl _⟩ (ow_mono T ?_)
    rintro r h' ⟨r21, I21, J21, R21, rfl, rfl, hR21, T⟩
    show ow_AW ow_Y0 (ow_Z Q) M_Mo_yeses (d + 1) 0 0 40 [(0, .ref 70), (1, .int p1), (2, .int p2), (3, .int p3), (4, .int p4)] [.int r21] (85, I21, J21, R21) 0 0
    refine ow_istore (ls2 := [(5, .int r21), (0, .ref 70), (1, .int p1), (2, .int p2), (3, .int p3), (4, .int p4)]) d_Mo_yeses_40 (by decide) rfl ?_
    refine ow_iload 0 rfl d_Mo_yeses_42 ?_
    refine ow_if_eq (tgt := 54) d_Mo_yeses_44 (by decide) (fun c => ?_) (fun c => ?_)
    · replace T := T.1 c
      refine ow_aload_n 1 rfl d_Mo_yeses_54 ?_
      refine ow_callV (b := 70) (cq := 12) (As := []) (rest := []) (d2 := d) d_Mo_yeses_55 l_Mo_281 v_Mo_asToldShapes (show 70 < 85 by decide) rfl (by decide) rfl (Nat.le_of_ble_eq_true rfl) (Nat.le_refl _) ⟨Nat.le_refl _, Nat.le_refl _⟩ (ow_mono T ?_)
      rintro r h' ⟨I22, J22, R22, rfl, rfl, hR22, T⟩
      show ow_AW ow_Y0 (ow_Z Q) M_Mo_yeses (d + 1) 0 0 58 [(5, .int r21), (0, .ref 70), (1, .int p1), (2, .int p2), (3, .int p3), (4, .int p4)] [] (85, I22, J22, R22) 0 0
      refine ow_aload_n 1 rfl d_Mo_yeses_58 ?_
      refine ow_iload_n 4 rfl d_Mo_yeses_59 ?_
      refine ow_pI 209 d_Mo_yeses_60 rfl rfl (by decide) rfl rfl rfl ?_
      obtain ⟨I23, eI23⟩ : ∃ uu, uu = ow_u I22 70 40 p3 := ⟨_, rfl⟩
      replace T := T I23 eI23
      rw [← eI23]
      refine ow_iconst (v := 0) (by decide) d_Mo_yeses_63 ?_
      refine ow_istore (ls2 := [(6, .int 0), (5, .int r21), (0, .ref 70), (1, .int p1), (2, .int p2), (3, .int p3), (4, .int p4)]) d_Mo_yeses_64 (by decide) rfl ?_
      refine ow_iconst (v := 0) (by decide) d_Mo_yeses_66 ?_
      refine ow_istore (ls2 := [(7, .int 0), (6, .int 0), (5, .int r21), (0, .ref 70), (1, .int p1), (2, .int p2), (3, .int p3), (4, .int p4)]) d_Mo_yeses_67 (by decide) rfl ?_
      refine ow_sub [3, 4, 5, 7, 1, 0] rfl ?_
      exact T
    · replace T := T.2 c
      refine ow_aload_n 1 rfl d_Mo_yeses_47 ?_
      refine ow_iload 0 rfl d_Mo_yeses_48 ?_
      refine ow_callV (b := 70) (cq := 12) (As := [.int r21]) (rest := []) (d2 := d) d_Mo_yeses_50 l_Mo_157 v_Mo_no (show 70 < 85 by decide) rfl (by decide) rfl (Nat.le_of_ble_eq_true rfl) (Nat.le_refl _) ⟨Nat.le_refl _, Nat.le_refl _⟩ (ow_mono T ?_)
      rintro r h' ⟨r24, I24, J24, R24, rfl, rfl, hR24, T⟩
      show ow_AW ow_Y0 (ow_Z Q) M_Mo_yeses (d + 1) 0 0 53 [(5, .int r21), (0, .ref 70), (1, .int p1), (2, .int p2), (3, .int p3), (4, .int p4)] [.int r24] (85, I24, J24, R24) 0 0
      exact ow_iret d_Mo_yeses_53 rfl T
  · replace T := T.2 c
    refine ow_iload 4 rfl d_Mo_yeses_21 ?_
    refine ow_iconst (v := 0) (by decide) d_Mo_yeses_23 ?_
    refine ow_bipush (v := 60) (by decide) d_Mo_yeses_24 ?_
    refine ow_callS (As := [.int p4, .int 0, .int 60]) (rest := [.int r19, .ref 70]) (d2 := d) d_Mo_yeses_26 l_Mo_142 v_Mo_in (Nat.le_of_ble_eq_true rfl) (Nat.le_refl _) ⟨Nat.le_refl _, Nat.le_refl _⟩ (ow_mono T ?_)
    rintro r h' ⟨r25, I25, J25, R25, rfl, rfl, hR25, T⟩
    show ow_AW ow_Y0 (ow_Z Q) M_Mo_yeses (d + 1) 0 0 29 [(0, .ref 70), (1, .int p1), (2, .int p2), (3, .int p3), (4, .int p4)] [.int r25, .int r19, .ref 70] (85, I25, J25, R25) 0 0
    refine ow_if_eq (tgt := 36) d_Mo_yeses_29 (by decide) (fun c => ?_) (fun c => ?_)
    · replace T := T.1 c
      refine ow_iconst (v := 0) (by decide) d_Mo_yeses_36 ?_
      refine ow_callV (b := 70) (cq := 12) (As := [.int r19, .int 0]) (rest := []) (d2 := d) d_Mo_yeses_37 l_Mo_323 v_Mo_why (show 70 < 85 by decide) rfl (by decide) rfl (Nat.le_of_ble_eq_true rfl) (Nat.le_refl _) ⟨Nat.le_refl _, Nat.le_refl _⟩ (ow_mono T ?_)
      rintro r h' ⟨r26, I26, J26, R26, rfl, rfl, hR26, T⟩
      show ow_AW ow_Y0 (ow_Z Q) M_Mo_yeses (d + 1) 0 0 40 [(0, .ref 70), (1, .int p1), (2, .int p2), (3, .int p3), (4, .int p4)] [.int r26] (85, I26, J26, R26) 0 0
      refine ow_istore (ls2 := [(5, .int r26), (0, .ref 70), (1, .int p1), (2, .int p2), (3, .int p3), (4, .int p4)]) d_Mo_yeses_40 (by decide) rfl ?_
      refine ow_iload 0 rfl d_Mo_yeses_42 ?_
      refine ow_if_eq (tgt := 54) d_Mo_yeses_44 (by decide) (fun c => ?_) (fun c => ?_)
      · replace T := T.1 c
        refine ow_aload_n 1 rfl d_Mo_yeses_54 ?_
        refine ow_callV (b := 70) (cq := 12) (As := []) (rest := []) (d2 := d) d_Mo_yeses_55 l_Mo_281 v_Mo_asToldShapes (show 70 < 85 by decide) rfl (by decide) rfl (Nat.le_of_ble_eq_true rfl) (Nat.le_refl _) ⟨Nat.le_refl _, Nat.le_refl _⟩ (ow_mono T ?_)
        rintro r h' ⟨I27, J27, R27, rfl, rfl, hR27, T⟩
        show ow_AW ow_Y0 (ow_Z Q) M_Mo_yeses (d + 1) 0 0 58 [(5, .int r26), (0, .ref 70), (1, .int p1), (2, .int p2), (3, .int p3), (4, .int p4)] [] (85, I27, J27, R27) 0 0
        refine ow_aload_n 1 rfl d_Mo_yeses_58 ?_
        refine ow_iload_n 4 rfl d_Mo_yeses_59 ?_
        refine ow_pI 209 d_Mo_yeses_60 rfl rfl (by decide) rfl rfl rfl ?_
        obtain ⟨I28, eI28⟩ : ∃ uu, uu = ow_u I27 70 40 p3 := ⟨_, rfl⟩
        replace T := T I28 eI28
        rw [← eI28]
        refine ow_iconst (v := 0) (by decide) d_Mo_yeses_63 ?_
        refine ow_istore (ls2 := [(6, .int 0), (5, .int r26), (0, .ref 70), (1, .int p1), (2, .int p2), (3, .int p3), (4, .int p4)]) d_Mo_yeses_64 (by decide) rfl ?_
        refine ow_iconst (v := 0) (by decide) d_Mo_yeses_66 ?_
        refine ow_istore (ls2 := [(7, .int 0), (6, .int 0), (5, .int r26), (0, .ref 70), (1, .int p1), (2, .int p2), (3, .int p3), (4, .int p4)]) d_Mo_yeses_67 (by decide) rfl ?_
        refine ow_sub [3, 4, 5, 7, 1, 0] rfl ?_
        exact T
      · replace T := T.2 c
        refine ow_aload_n 1 rfl d_Mo_yeses_47 ?_
        refine ow_iload 0 rfl d_Mo_yeses_48 ?_
        refine ow_callV (b := 70) (cq := 12) (As := [.int r26]) (rest := []) (d2 := d) d_Mo_yeses_50 l_Mo_157 v_Mo_no (show 70 < 85 by decide) rfl (by decide) rfl (Nat.le_of_ble_eq_true rfl) (Nat.le_refl _) ⟨Nat.le_refl _, Nat.le_refl _⟩ (ow_mono T ?_)
        rintro r h' ⟨r29, I29, J29, R29, rfl, rfl, hR29, T⟩
        show ow_AW ow_Y0 (ow_Z Q) M_Mo_yeses (d + 1) 0 0 53 [(5, .int r26), (0, .ref 70), (1, .int p1), (2, .int p2), (3, .int p3), (4, .int p4)] [.int r29] (85, I29, J29, R29) 0 0
        exact ow_iret d_Mo_yeses_53 rfl T
    · replace T := T.2 c
      refine ow_iconst (v := 1) (by decide) d_Mo_yeses_32 ?_
      refine ow_goto (tgt := 37) d_Mo_yeses_33 (by decide) ?_
      refine ow_callV (b := 70) (cq := 12) (As := [.int r19, .int 1]) (rest := []) (d2 := d) d_Mo_yeses_37 l_Mo_323 v_Mo_why (show 70 < 85 by decide) rfl (by decide) rfl (Nat.le_of_ble_eq_true rfl) (Nat.le_refl _) ⟨Nat.le_refl _, Nat.le_refl _⟩ (ow_mono T ?_)
      rintro r h' ⟨r30, I30, J30, R30, rfl, rfl, hR30, T⟩
      show ow_AW ow_Y0 (ow_Z Q) M_Mo_yeses (d + 1) 0 0 40 [(0, .ref 70), (1, .int p1), (2, .int p2), (3, .int p3), (4, .int p4)] [.int r30] (85, I30, J30, R30) 0 0
      refine ow_istore (ls2 := [(5, .int r30), (0, .ref 70), (1, .int p1), (2, .int p2), (3, .int p3), (4, .int p4)]) d_Mo_yeses_40 (by decide) rfl ?_
      refine ow_iload 0 rfl d_Mo_yeses_42 ?_
      refine ow_if_eq (tgt := 54) d_Mo_yeses_44 (by decide) (fun c => ?_) (fun c => ?_)
      · replace T := T.1 c
        refine ow_aload_n 1 rfl d_Mo_yeses_54 ?_
        refine ow_callV (b := 70) (cq := 12) (As := []) (rest := []) (d2 := d) d_Mo_yeses_55 l_Mo_281 v_Mo_asToldShapes (show 70 < 85 by decide) rfl (by decide) rfl (Nat.le_of_ble_eq_true rfl) (Nat.le_refl _) ⟨Nat.le_refl _, Nat.le_refl _⟩ (ow_mono T ?_)
        rintro r h' ⟨I31, J31, R31, rfl, rfl, hR31, T⟩
        show ow_AW ow_Y0 (ow_Z Q) M_Mo_yeses (d + 1) 0 0 58 [(5, .int r30), (0, .ref 70), (1, .int p1), (2, .int p2), (3, .int p3), (4, .int p4)] [] (85, I31, J31, R31) 0 0
        refine ow_aload_n 1 rfl d_Mo_yeses_58 ?_
        refine ow_iload_n 4 rfl d_Mo_yeses_59 ?_
        refine ow_pI 209 d_Mo_yeses_60 rfl rfl (by decide) rfl rfl rfl ?_
        obtain ⟨I32, eI32⟩ : ∃ uu, uu = ow_u I31 70 40 p3 := ⟨_, rfl⟩
        replace T := T I32 eI32
        rw [← eI32]
        refine ow_iconst (v := 0) (by decide) d_Mo_yeses_63 ?_
        refine ow_istore (ls2 := [(6, .int 0), (5, .int r30), (0, .ref 70), (1, .int p1), (2, .int p2), (3, .int p3), (4, .int p4)]) d_Mo_yeses_64 (by decide) rfl ?_
        refine ow_iconst (v := 0) (by decide) d_Mo_yeses_66 ?_
        refine ow_istore (ls2 := [(7, .int 0), (6, .int 0), (5, .int r30), (0, .ref 70), (1, .int p1), (2, .int p2), (3, .int p3), (4, .int p4)]) d_Mo_yeses_67 (by decide) rfl ?_
        refine ow_sub [3, 4, 5, 7, 1, 0] rfl ?_
        exact T
      · replace T := T.2 c
        refine ow_aload_n 1 rfl d_Mo_yeses_47 ?_
        refine ow_iload 0 rfl d_Mo_yeses_48 ?_
        refine ow_callV (b := 70) (cq := 12) (As := [.int r30]) (rest := []) (d2 := d) d_Mo_yeses_50 l_Mo_157 v_Mo_no (show 70 < 85 by decide) rfl (by decide) rfl (Nat.le_of_ble_eq_true rfl) (Nat.le_refl _) ⟨Nat.le_refl _, Nat.le_refl _⟩ (ow_mono T ?_)
        rintro r h' ⟨r33, I33, J33, R33, rfl, rfl, hR33, T⟩
        show ow_AW ow_Y0 (ow_Z Q) M_Mo_yeses (d + 1) 0 0 53 [(5, .int r30), (0, .ref 70), (1, .int p1), (2, .int p2), (3, .int p3), (4, .int p4)] [.int r33] (85, I33, J33, R33) 0 0
        exact ow_iret d_Mo_yeses_53 rfl T
set_option maxRecDepth 4000 in
theorem t_Mo_note_11 {d : Nat} {I : Nat → Nat → Int32} {J : Nat → Nat → Int64} {R : Nat → Nat → Option Nat} {Q : Option Value → ow_H → Prop}  {v1 : Int32}  (hR : ow_RF R) (T : ((210 ≤ v1 → (∀ (I3 : Nat → Nat → Int32), I3 = ow_u I 70 22 ((I 70 22) - 1) → (ow_AM M_Mo_copy d [.ref 77, .int 0, .ref 78, .int (14 * (I3 70 22)), .int 14] (85, I3, J, R) (fun r h' => ∃ (I4 : Nat → Nat → Int32) (J4 : Nat → Nat → Int64) (R4 : Nat → Nat → Option Nat), r = none ∧ h' = (85, I4, J4, R4) ∧ ow_RF R4 ∧ (∀ (I5 : Nat → Nat → Int32), I5 = ow_u I4 70 22 ((I4 70 22) + 1) → Q none (85, I5, J4, R4)))))) ∧ (¬ 210 ≤ v1 → (vp_in (v1 + 14) 224 ∧ (vp_in v1 224 ∧ (∀ (I6 : Nat → Nat → Int32), I6 = ow_u I 78 (v1.toNatClampNeg) (I 78 (v1 + 14).toNatClampNeg) → ow_AW ow_Y0 (ow_Z Q) M_Mo_note (d + 1) 0 0 11 [(0, .ref 70), (1, .int (v1 + 1))] [] (85, I6, J, R) 0 0)))))) : ow_AW ow_Y0 (ow_Z Q) M_Mo_note (d + 1) 0 0 11 [(0, .ref 70), (1, .int v1)] [] (85, I, J, R) 0 0 := by
  refine ow_iload_n 1 rfl d_Mo_note_11 ?_
  refine ow_sipush (v := 210) (by decide) d_Mo_note_12 ?_
  refine ow_icmp_ge (tgt := 39) d_Mo_note_15 (by decide) (fun c => ?_) (fun c => ?_)
  · replace T := T.1 c
    refine ow_aload_n 0 rfl d_Mo_note_39 ?_
    refine ow_dup rfl d_Mo_note_40 ?_
    refine ow_gI 191 d_Mo_note_41 rfl rfl (by decide) rfl (Or.inl rfl) ?_
    refine ow_iconst (v := 1) (by decide) d_Mo_note_44 ?_
    refine ow_isub d_Mo_note_45 ?_
    refine ow_pI 191 d_Mo_note_46 rfl rfl (by decide) rfl rfl rfl ?_
    obtain ⟨I3, eI3⟩ : ∃ uu, uu = ow_u I 70 22 ((I 70 22) - 1) := ⟨_, rfl⟩
    replace T := T I3 eI3
    rw [← eI3]
    refine ow_aload_n 0 rfl d_Mo_note_49 ?_
    refine ow_gR (a := 77) 188 d_Mo_note_50 rfl rfl (by decide) rfl ⟨rfl, hR 70 19 (by decide)⟩ ?_
    refine ow_iconst (v := 0) (by decide) d_Mo_note_53 ?_
    refine ow_aload_n 0 rfl d_Mo_note_54 ?_
    refine ow_gR (a := 78) 189 d_Mo_note_55 rfl rfl (by decide) rfl ⟨rfl, hR 70 20 (by decide)⟩ ?_
    refine ow_bipush (v := 14) (by decide) d_Mo_note_58 ?_
    refine ow_aload_n 0 rfl d_Mo_note_60 ?_
    refine ow_gI 191 d_Mo_note_61 rfl rfl (by decide) rfl (Or.inl rfl) ?_
    refine ow_imul d_Mo_note_64 ?_
    refine ow_bipush (v := 14) (by decide) d_Mo_note_65 ?_
    refine ow_callS (As := [.ref 77, .int 0, .ref 78, .int (14 * (I3 70 22)), .int 14]) (rest := []) (d2 := d) d_Mo_note_67 l_Mo_163 v_Mo_copy (Nat.le_of_ble_eq_true rfl) (Nat.le_refl _) ⟨Nat.le_refl _, Nat.le_refl _⟩ (ow_mono T ?_)
    rintro r h' ⟨I4, J4, R4, rfl, rfl, hR4, T⟩
    show ow_AW ow_Y0 (ow_Z Q) M_Mo_note (d + 1) 0 0 70 [(0, .ref 70), (1, .int v1)] [] (85, I4, J4, R4) 0 0
    refine ow_aload_n 0 rfl d_Mo_note_70 ?_
    refine ow_dup rfl d_Mo_note_71 ?_
    refine ow_gI 191 d_Mo_note_72 rfl rfl (by decide) rfl (Or.inl rfl) ?_
    refine ow_iconst (v := 1) (by decide) d_Mo_note_75 ?_
    refine ow_iadd d_Mo_note_76 ?_
    refine ow_pI 191 d_Mo_note_77 rfl rfl (by decide) rfl rfl rfl ?_
    obtain ⟨I5, eI5⟩ : ∃ uu, uu = ow_u I4 70 22 ((I4 70 22) + 1) := ⟨_, rfl⟩
    replace T := T I5 eI5
    rw [← eI5]
    exact ow_vret d_Mo_note_80 rfl T
  · replace T := T.2 c
    refine ow_aload_n 0 rfl d_Mo_note_18 ?_
    refine ow_gR (a := 78) 189 d_Mo_note_19 rfl rfl (by decide) rfl ⟨rfl, hR 70 20 (by decide)⟩ ?_
    refine ow_iload_n 1 rfl d_Mo_note_22 ?_
    refine ow_aload_n 0 rfl d_Mo_note_23 ?_
    refine ow_gR (a := 78) 189 d_Mo_note_24 rfl rfl (by decide) rfl ⟨rfl, hR 70 20 (by decide)⟩ ?_
    refine ow_iload_n 1 rfl d_Mo_note_27 ?_
    refine ow_bipush (v := 14) (by decide) d_Mo_note_28 ?_
    refine ow_iadd d_Mo_note_30 ?_
    obtain ⟨cI, T⟩ := T
    refine ow_hiaload d_Mo_note_31 (by decide) rfl rfl cI ?_
    obtain ⟨cI, T⟩ := T
    refine ow_hiastore d_Mo_note_32 (by decide) rfl rfl cI ?_
    obtain ⟨I6, eI6⟩ : ∃ uu, uu = ow_u I 78 (v1.toNatClampNeg) (I 78 (v1 + 14).toNatClampNeg) := ⟨_, rfl⟩
    replace T := T I6 eI6
    rw [← eI6]
    refine ow_iinc 1 (v := (v1 + 1)) (ls2 := [(1, .int (v1 + 1)), (0, .ref 70)]) d_Mo_note_33 rfl rfl (by decide) rfl ?_
    refine ow_goto (tgt := 11) d_Mo_note_36 (by decide) ?_
    refine ow_sub [1, 0] rfl ?_
    exact T
set_option maxRecDepth 4000 in
theorem t_Mo_note {d : Nat} {I : Nat → Nat → Int32} {J : Nat → Nat → Int64} {R : Nat → Nat → Option Nat} {Q : Option Value → ow_H → Prop}   (hR : ow_RF R) (T : ((¬ (I 70 22) = 16 → (ow_AM M_Mo_copy d [.ref 77, .int 0, .ref 78, .int (14 * (I 70 22)), .int 14] (85, I, J, R) (fun r h' => ∃ (I7 : Nat → Nat → Int32) (J7 : Nat → Nat → Int64) (R7 : Nat → Nat → Option Nat), r = none ∧ h' = (85, I7, J7, R7) ∧ ow_RF R7 ∧ (∀ (I8 : Nat → Nat → Int32), I8 = ow_u I7 70 22 ((I7 70 22) + 1) → Q none (85, I8, J7, R7))))) ∧ ((I 70 22) = 16 → ow_AW ow_Y0 (ow_Z Q) M_Mo_note (d + 1) 0 0 11 [(0, .ref 70), (1, .int 0)] [] (85, I, J, R) 0 0))) : ow_AM M_Mo_note (d + 1) [.ref 70] (85, I, J, R) Q := by
  refine ow_enter (by decide) (Nat.le_of_ble_eq_true rfl) ?_
  show ow_AW ow_Y0 (ow_Z Q) M_Mo_note (d + 1) 0 0 0 [(0, .ref 70)] [] (85, I, J, R) 0 0
  refine ow_aload_n 0 rfl d_Mo_note_0 ?_
  refine ow_gI 191 d_Mo_note_1 rfl rfl (by decide) rfl (Or.inl rfl) ?_
  refine ow_bipush (v := 16) (by decide) d_Mo_note_4 ?_
  refine ow_icmp_ne (tgt := 49) d_Mo_note_6 (by decide) (fun c => ?_) (fun c => ?_)
  · replace T := T.1 c
    refine ow_aload_n 0 rfl d_Mo_note_49 ?_
    refine ow_gR (a := 77) 188 d_Mo_note_50 rfl rfl (by decide) rfl ⟨rfl, hR 70 19 (by decide)⟩ ?_
    refine ow_iconst (v := 0) (by decide) d_Mo_note_53 ?_
    refine ow_aload_n 0 rfl d_Mo_note_54 ?_
    refine ow_gR (a := 78) 189 d_Mo_note_55 rfl rfl (by decide) rfl ⟨rfl, hR 70 20 (by decide)⟩ ?_
    refine ow_bipush (v := 14) (by decide) d_Mo_note_58 ?_
    refine ow_aload_n 0 rfl d_Mo_note_60 ?_
    refine ow_gI 191 d_Mo_note_61 rfl rfl (by decide) rfl (Or.inl rfl) ?_
    refine ow_imul d_Mo_note_64 ?_
    refine ow_bipush (v := 14) (by decide) d_Mo_note_65 ?_
    refine ow_callS (As := [.ref 77, .int 0, .ref 78, .int (14 * (I 70 22)), .int 14]) (rest := []) (d2 := d) d_Mo_note_67 l_Mo_163 v_Mo_copy (Nat.le_of_ble_eq_true rfl) (Nat.le_refl _) ⟨Nat.le_refl _, Nat.le_refl _⟩ (ow_mono T ?_)
    rintro r h' ⟨I7, J7, R7, rfl, rfl, hR7, T⟩
    show ow_AW ow_Y0 (ow_Z Q) M_Mo_note (d + 1) 0 0 70 [(0, .ref 70)] [] (85, I7, J7, R7) 0 0
    refine ow_aload_n 0 rfl d_Mo_note_70 ?_
    refine ow_dup rfl d_Mo_note_71 ?_
    refine ow_gI 191 d_Mo_note_72 rfl rfl (by decide) rfl (Or.inl rfl) ?_
    refine ow_iconst (v := 1) (by decide) d_Mo_note_75 ?_
    refine ow_iadd d_Mo_note_76 ?_
    refine ow_pI 191 d_Mo_note_77 rfl rfl (by decide) rfl rfl rfl ?_
    obtain ⟨I8, eI8⟩ : ∃ uu, uu = ow_u I7 70 22 ((I7 70 22) + 1) := ⟨_, rfl⟩
    replace T := T I8 eI8
    rw [← eI8]
    exact ow_vret d_Mo_note_80 rfl T
  · replace T := T.2 c
    refine ow_iconst (v := 0) (by decide) d_Mo_note_9 ?_
    refine ow_istore_n (ls2 := [(1, .int 0), (0, .ref 70)]) d_Mo_note_10 (by decide) rfl ?_
    refine ow_sub [1, 0] rfl ?_
    exact T
set_option maxRecDepth 4000 in
theorem t_Mo_ruins_4 {d : Nat} {I : Nat → Nat → Int32} {J : Nat → Nat → Int64} {R : Nat → Nat → Option Nat} {Q : Option Value → ow_H → Prop}  {v1 : Int32} {v2 : Int32}  (hR : ow_RF R) (T : (((I 73 2) ≤ v2 → Q (some (.int v1)) (85, I, J, R)) ∧ (¬ (I 73 2) ≤ v2 → (vp_in v2 14 ∧ ((¬ (I 77 v2.toNatClampNeg) = 0 → ow_AW ow_Y0 (ow_Z Q) M_Mo_ruins (d + 1) 0 0 4 [(0, .ref 70), (1, .int (v1 ||| 0)), (2, .int (v2 + 1))] [] (85, I, J, R) 0 0) ∧ ((I 77 v2.toNatClampNeg) = 0 → ow_AW ow_Y0 (ow_Z Q) M_Mo_ruins (d + 1) 0 0 4 [(0, .ref 70), (1, .int (v1 ||| ((1 : Int32) <<< (v2 &&& 31)))), (2, .int (v2 + 1))] [] (85, I, J, R) 0 0)))))) : ow_AW ow_Y0 (ow_Z Q) M_Mo_ruins (d + 1) 0 0 4 [(0, .ref 70), (1, .int v1), (2, .int v2)] [] (85, I, J, R) 0 0 := by
  refine ow_iload_n 2 rfl d_Mo_ruins_4 ?_
  refine ow_aload_n 0 rfl d_Mo_ruins_5 ?_
  refine ow_gR (a := 73) 184 d_Mo_ruins_6 rfl rfl (by decide) rfl ⟨rfl, hR 70 15 (by decide)⟩ ?_
  refine ow_iconst (v := 2) (by decide) d_Mo_ruins_9 ?_
  refine ow_hiaload d_Mo_ruins_10 (by decide) rfl rfl (show vp_in (2 : Int32) 146 by unfold vp_in; decide) ?_
  show ow_AW ow_Y0 (ow_Z Q) M_Mo_ruins (d + 1) 0 0 11 [(0, .ref 70), (1, .int v1), (2, .int v2)] [.int (I 73 2), .int v2] (85, I, J, R) 0 0
  refine ow_icmp_ge (tgt := 39) d_Mo_ruins_11 (by decide) (fun c => ?_) (fun c => ?_)
  · replace T := T.1 c
    refine ow_iload_n 1 rfl d_Mo_ruins_39 ?_
    exact ow_iret d_Mo_ruins_40 rfl T
  · replace T := T.2 c
    refine ow_iload_n 1 rfl d_Mo_ruins_14 ?_
    refine ow_aload_n 0 rfl d_Mo_ruins_15 ?_
    refine ow_gR (a := 77) 188 d_Mo_ruins_16 rfl rfl (by decide) rfl ⟨rfl, hR 70 19 (by decide)⟩ ?_
    refine ow_iload_n 2 rfl d_Mo_ruins_19 ?_
    obtain ⟨cI, T⟩ := T
    refine ow_hiaload d_Mo_ruins_20 (by decide) rfl rfl cI ?_
    refine ow_if_ne (tgt := 30) d_Mo_ruins_21 (by decide) (fun c => ?_) (fun c => ?_)
    · replace T := T.1 c
      refine ow_iconst (v := 0) (by decide) d_Mo_ruins_30 ?_
      refine ow_ior d_Mo_ruins_31 ?_
      refine ow_istore_n (ls2 := [(1, .int (v1 ||| 0)), (0, .ref 70), (2, .int v2)]) d_Mo_ruins_32 (by decide) rfl ?_
      refine ow_iinc 2 (v := (v2 + 1)) (ls2 := [(2, .int (v2 + 1)), (1, .int (v1 ||| 0)), (0, .ref 70)]) d_Mo_ruins_33 rfl rfl (by decide) rfl ?_
      refine ow_goto (tgt := 4) d_Mo_ruins_36 (by decide) ?_
      refine ow_sub [2, 1, 0] rfl ?_
      exact T
    · replace T := T.2 c
      refine ow_iconst (v := 1) (by decide) d_Mo_ruins_24 ?_
      refine ow_iload_n 2 rfl d_Mo_ruins_25 ?_
      refine ow_ishl d_Mo_ruins_26 ?_
      refine ow_goto (tgt := 31) d_Mo_ruins_27 (by decide) ?_
      refine ow_ior d_Mo_ruins_31 ?_
      refine ow_istore_n (ls2 := [(1, .int (v1 ||| ((1 : Int32) <<< (v2 &&& 31)))), (0, .ref 70), (2, .int v2)]) d_Mo_ruins_32 (by decide) rfl ?_
      refine ow_iinc 2 (v := (v2 + 1)) (ls2 := [(2, .int (v2 + 1)), (1, .int (v1 ||| ((1 : Int32) <<< (v2 &&& 31)))), (0, .ref 70)]) d_Mo_ruins_33 rfl rfl (by decide) rfl ?_
      refine ow_goto (tgt := 4) d_Mo_ruins_36 (by decide) ?_
      refine ow_sub [2, 1, 0] rfl ?_
      exact T
set_option maxRecDepth 4000 in
theorem t_Mo_ruins {d : Nat} {I : Nat → Nat → Int32} {J : Nat → Nat → Int64} {R : Nat → Nat → Option Nat} {Q : Option Value → ow_H → Prop}   (hR : ow_RF R) (T : ow_AW ow_Y0 (ow_Z Q) M_Mo_ruins (d + 1) 0 0 4 [(0, .ref 70), (1, .int 0), (2, .int 0)] [] (85, I, J, R) 0 0) : ow_AM M_Mo_ruins (d + 1) [.ref 70] (85, I, J, R) Q := by
  refine ow_enter (by decide) (Nat.le_of_ble_eq_true rfl) ?_
  show ow_AW ow_Y0 (ow_Z Q) M_Mo_ruins (d + 1) 0 0 0 [(0, .ref 70)] [] (85, I, J, R) 0 0
  refine ow_iconst (v := 0) (by decide) d_Mo_ruins_0 ?_
  refine ow_istore_n (ls2 := [(1, .int 0), (0, .ref 70)]) d_Mo_ruins_1 (by decide) rfl ?_
  refine ow_iconst (v := 0) (by decide) d_Mo_ruins_2 ?_
  refine ow_istore_n (ls2 := [(2, .int 0), (1, .int 0), (0, .ref 70)]) d_Mo_ruins_3 (by decide) rfl ?_
  refine ow_sub [2, 1, 0] rfl ?_
  exact T
set_option maxRecDepth 4000 in
theorem t_Mo_year {d : Nat} {I : Nat → Nat → Int32} {J : Nat → Nat → Int64} {R : Nat → Nat → Option Nat} {Q : Option Value → ow_H → Prop}   (hR : ow_RF R) (T : (ow_AM M_Mo_good d [.ref 70] (85, I, J, R) (fun r h' => ∃ (I8 : Nat → Nat → Int32) (J8 : Nat → Nat → Int64) (R8 : Nat → Nat → Option Nat), r = none ∧ h' = (85, I8, J8, R8) ∧ ow_RF R8 ∧ ((¬ (I8 70 14) = 0 → ((¬ (I8 77 13) = 999 → (ow_AM M_Mo_note d [.ref 70] (85, I8, J8, R8) (fun r h' => ∃ (I9 : Nat → Nat → Int32) (J9 : Nat → Nat → Int64) (R9 : Nat → Nat → Option Nat), r = none ∧ h' = (85, I9, J9, R9) ∧ ow_RF R9 ∧ (ow_AM M_Mo_ruins d [.ref 70] (85, I9, J9, R9) (fun r h' => ∃ (r10 : Int32) (I10 : Nat → Nat → Int32) (J10 : Nat → Nat → Int64) (R10 : Nat → Nat → Option Nat), r = some (.int r10) ∧ h' = (85, I10, J10, R10) ∧ ow_RF R10 ∧ (ow_AM M_Mo_yearOn d [.ref 70, .ref 77] (85, I10, J10, R10) (fun r h' => ∃ (I11 : Nat → Nat → Int32) (J11 : Nat → Nat → Int64) (R11 : Nat → Nat → Option Nat), r = none ∧ h' = (85, I11, J11, R11) ∧ ow_RF R11 ∧ (ow_AM M_Mo_ruins d [.ref 70] (85, I11, J11, R11) (fun r h' => ∃ (r12 : Int32) (I12 : Nat → Nat → Int32) (J12 : Nat → Nat → Int64) (R12 : Nat → Nat → Option Nat), r = some (.int r12) ∧ h' = (85, I12, J12, R12) ∧ ow_RF R12 ∧ Q (some (.int (r12 &&& (r10 ^^^ (-1))))) (85, I12, J12, R12)))))))))) ∧ ((I8 77 13) = 999 → (ow_AM M_Mo_no d [.ref 70, .int 3] (85, I8, J8, R8) (fun r h' => ∃ (r13 : Int32) (I13 : Nat → Nat → Int32) (J13 : Nat → Nat → Int64) (R13 : Nat → Nat → Option Nat), r = some (.int r13) ∧ h' = (85, I13, J13, R13) ∧ ow_RF R13 ∧ Q (some (.int r13)) (85, I13, J13, R13)))))) ∧ ((I8 70 14) = 0 → (ow_AM M_Mo_no d [.ref 70, .int 1] (85, I8, J8, R8) (fun r h' => ∃ (r14 : Int32) (I14 : Nat → Nat → Int32) (J14 : Nat → Nat → Int64) (R14 : Nat → Nat → Option Nat), r = some (.int r14) ∧ h' = (85, I14, J14, R14) ∧ ow_RF R14 ∧ Q (some (.int r14)) (85, I14, J14, R14)))))))) : ow_AM M_Mo_year (d + 1) [.ref 70] (85, I, J, R) Q := by
  refine ow_enter (by decide) (Nat.le_of_ble_eq_true rfl) ?_
  show ow_AW ow_Y0 (ow_Z Q) M_Mo_year (d + 1) 0 0 0 [(0, .ref 70)] [] (85, I, J, R) 0 0
  refine ow_aload_n 0 rfl d_Mo_year_0 ?_
  refine ow_callV (b := 70) (cq := 12) (As := []) (rest := []) (d2 := d) d_Mo_year_1 l_Mo_154 v_Mo_good (show 70 < 85 by decide) rfl (by decide) rfl (Nat.le_of_ble_eq_true rfl) (Nat.le_refl _) ⟨Nat.le_refl _, Nat.le_refl _⟩ (ow_mono T ?_)
  rintro r h' ⟨I8, J8, R8, rfl, rfl, hR8, T⟩
  show ow_AW ow_Y0 (ow_Z Q) M_Mo_year (d + 1) 0 0 4 [(0, .ref 70)] [] (85, I8, J8, R8) 0 0
  refine ow_aload_n 0 rfl d_Mo_year_4 ?_
  refine ow_gI 183 d_Mo_year_5 rfl rfl (by decide) rfl (Or.inr rfl) ?_
  refine ow_if_ne (tgt := 17) d_Mo_year_8 (by decide) (fun c => ?_) (fun c => ?_)
  · replace T := T.1 c
    refine ow_aload_n 0 rfl d_Mo_year_17 ?_
    refine ow_gR (a := 77) 188 d_Mo_year_18 rfl rfl (by decide) rfl ⟨rfl, hR8 70 19 (by decide)⟩ ?_
    refine ow_bipush (v := 13) (by decide) d_Mo_year_21 ?_
    refine ow_hiaload d_Mo_year_23 (by decide) rfl rfl (show vp_in (13 : Int32) 14 by unfold vp_in; decide) ?_
    show ow_AW ow_Y0 (ow_Z Q) M_Mo_year (d + 1) 0 0 24 [(0, .ref 70)] [.int (I8 77 13)] (85, I8, J8, R8) 0 0
    refine ow_sipush (v := 999) (by decide) d_Mo_year_24 ?_
    refine ow_icmp_ne (tgt := 36) d_Mo_year_27 (by decide) (fun c => ?_) (fun c => ?_)
    · replace T := T.1 c
      refine ow_aload_n 0 rfl d_Mo_year_36 ?_
      refine ow_callV (b := 70) (cq := 12) (As := []) (rest := []) (d2 := d) d_Mo_year_37 l_Mo_414 v_Mo_note (show 70 < 85 by decide) rfl (by decide) rfl (Nat.le_of_ble_eq_true rfl) (Nat.le_refl _) ⟨Nat.le_refl _, Nat.le_refl _⟩ (ow_mono T ?_)
      rintro r h' ⟨I9, J9, R9, rfl, rfl, hR9, T⟩
      show ow_AW ow_Y0 (ow_Z Q) M_Mo_year (d + 1) 0 0 40 [(0, .ref 70)] [] (85, I9, J9, R9) 0 0
      refine ow_aload_n 0 rfl d_Mo_year_40 ?_
      refine ow_callV (b := 70) (cq := 12) (As := []) (rest := []) (d2 := d) d_Mo_year_41 l_Mo_417 v_Mo_ruins (show 70 < 85 by decide) rfl (by decide) rfl (Nat.le_of_ble_eq_true rfl) (Nat.le_refl _) ⟨Nat.le_refl _, Nat.le_refl _⟩ (ow_mono T ?_)
      rintro r h' ⟨r10, I10, J10, R10, rfl, rfl, hR10, T⟩
      show ow_AW ow_Y0 (ow_Z Q) M_Mo_year (d + 1) 0 0 44 [(0, .ref 70)] [.int r10] (85, I10, J10, R10) 0 0
      refine ow_istore_n (ls2 := [(1, .int r10), (0, .ref 70)]) d_Mo_year_44 (by decide) rfl ?_
      refine ow_aload_n 1 rfl d_Mo_year_45 ?_
      refine ow_aload_n 1 rfl d_Mo_year_46 ?_
      refine ow_gR (a := 77) 188 d_Mo_year_47 rfl rfl (by decide) rfl ⟨rfl, hR10 70 19 (by decide)⟩ ?_
      refine ow_callV (b := 70) (cq := 12) (As := [.ref 77]) (rest := []) (d2 := d) d_Mo_year_50 l_Mo_319 v_Mo_yearOn (show 70 < 85 by decide) rfl (by decide) rfl (Nat.le_of_ble_eq_true rfl) (Nat.le_refl _) ⟨Nat.le_refl _, Nat.le_refl _⟩ (ow_mono T ?_)
      rintro r h' ⟨I11, J11, R11, rfl, rfl, hR11, T⟩
      show ow_AW ow_Y0 (ow_Z Q) M_Mo_year (d + 1) 0 0 53 [(1, .int r10), (0, .ref 70)] [] (85, I11, J11, R11) 0 0
      refine ow_aload_n 1 rfl d_Mo_year_53 ?_
      refine ow_callV (b := 70) (cq := 12) (As := []) (rest := []) (d2 := d) d_Mo_year_54 l_Mo_417 v_Mo_ruins (show 70 < 85 by decide) rfl (by decide) rfl (Nat.le_of_ble_eq_true rfl) (Nat.le_refl _) ⟨Nat.le_refl _, Nat.le_refl _⟩ (ow_mono T ?_)
      rintro r h' ⟨r12, I12, J12, R12, rfl, rfl, hR12, T⟩
      show ow_AW ow_Y0 (ow_Z Q) M_Mo_year (d + 1) 0 0 57 [(1, .int r10), (0, .ref 70)] [.int r12] (85, I12, J12, R12) 0 0
      refine ow_iload_n 0 rfl d_Mo_year_57 ?_
      refine ow_iconst (v := (-1)) (by decide) d_Mo_year_58 ?_
      refine ow_ixor d_Mo_year_59 ?_
      refine ow_iand d_Mo_year_60 ?_
      exact ow_iret d_Mo_year_61 rfl T
    · replace T := T.2 c
      refine ow_aload_n 0 rfl d_Mo_year_30 ?_
      refine ow_iconst (v := 3) (by decide) d_Mo_year_31 ?_
      refine ow_callV (b := 70) (cq := 12) (As := [.int 3]) (rest := []) (d2 := d) d_Mo_year_32 l_Mo_157 v_Mo_no (show 70 < 85 by decide) rfl (by decide) rfl (Nat.le_of_ble_eq_true rfl) (Nat.le_refl _) ⟨Nat.le_refl _, Nat.le_refl _⟩ (ow_mono T ?_)
      rintro r h' ⟨r13, I13, J13, R13, rfl, rfl, hR13, T⟩
      show ow_AW ow_Y0 (ow_Z Q) M_Mo_year (d + 1) 0 0 35 [(0, .ref 70)] [.int r13] (85, I13, J13, R13) 0 0
      exact ow_iret d_Mo_year_35 rfl T
  · replace T := T.2 c
    refine ow_aload_n 0 rfl d_Mo_year_11 ?_
    refine ow_iconst (v := 1) (by decide) d_Mo_year_12 ?_
    refine ow_callV (b := 70) (cq := 12) (As := [.int 1]) (rest := []) (d2 := d) d_Mo_year_13 l_Mo_157 v_Mo_no (show 70 < 85 by decide) rfl (by decide) rfl (Nat.le_of_ble_eq_true rfl) (Nat.le_refl _) ⟨Nat.le_refl _, Nat.le_refl _⟩ (ow_mono T ?_)
    rintro r h' ⟨r14, I14, J14, R14, rfl, rfl, hR14, T⟩
    show ow_AW ow_Y0 (ow_Z Q) M_Mo_year (d + 1) 0 0 16 [(0, .ref 70)] [.int r14] (85, I14, J14, R14) 0 0
    exact ow_iret d_Mo_year_16 rfl T
set_option maxRecDepth 4000 in
theorem t_Mo_mend {d : Nat} {I : Nat → Nat → Int32} {J : Nat → Nat → Int64} {R : Nat → Nat → Option Nat} {Q : Option Value → ow_H → Prop} {p1 : Int32}  (hR : ow_RF R) (T : (ow_AM M_Mo_good d [.ref 70] (85, I, J, R) (fun r h' => ∃ (I7 : Nat → Nat → Int32) (J7 : Nat → Nat → Int64) (R7 : Nat → Nat → Option Nat), r = none ∧ h' = (85, I7, J7, R7) ∧ ow_RF R7 ∧ (ow_AM M_Mo_isFolly d [.ref 70, .int p1] (85, I7, J7, R7) (fun r h' => ∃ (r8 : Int32) (I8 : Nat → Nat → Int32) (J8 : Nat → Nat → Int64) (R8 : Nat → Nat → Option Nat), r = some (.int r8) ∧ h' = (85, I8, J8, R8) ∧ ow_RF R8 ∧ ((¬ r8 = 0 → (vp_in ((7 + (2 * p1)) + 1) 146 ∧ (vp_in p1 14 ∧ ((¬ (I8 77 p1.toNatClampNeg) = (I8 73 ((7 + (2 * p1)) + 1).toNatClampNeg) → (ow_AM M_Mo_note d [.ref 70] (85, I8, J8, R8) (fun r h' => ∃ (I9 : Nat → Nat → Int32) (J9 : Nat → Nat → Int64) (R9 : Nat → Nat → Option Nat), r = none ∧ h' = (85, I9, J9, R9) ∧ ow_RF R9 ∧ (vp_in p1 14 ∧ (∀ (I10 : Nat → Nat → Int32), I10 = ow_u I9 77 (p1.toNatClampNeg) (I8 73 ((7 + (2 * p1)) + 1).toNatClampNeg) → Q (some (.int (I8 73 ((7 + (2 * p1)) + 1).toNatClampNeg))) (85, I10, J9, R9)))))) ∧ ((I8 77 p1.toNatClampNeg) = (I8 73 ((7 + (2 * p1)) + 1).toNatClampNeg) → (ow_AM M_Mo_no d [.ref 70, .int 5] (85, I8, J8, R8) (fun r h' => ∃ (r11 : Int32) (I11 : Nat → Nat → Int32) (J11 : Nat → Nat → Int64) (R11 : Nat → Nat → Option Nat), r = some (.int r11) ∧ h' = (85, I11, J11, R11) ∧ ow_RF R11 ∧ Q (some (.int r11)) (85, I11, J11, R11)))))))) ∧ (r8 = 0 → (ow_AM M_Mo_no d [.ref 70, .int 1] (85, I8, J8, R8) (fun r h' => ∃ (r12 : Int32) (I12 : Nat → Nat → Int32) (J12 : Nat → Nat → Int64) (R12 : Nat → Nat → Option Nat), r = some (.int r12) ∧ h' = (85, I12, J12, R12) ∧ ow_RF R12 ∧ Q (some (.int r12)) (85, I12, J12, R12)))))))))) : ow_AM M_Mo_mend (d + 1) [.ref 70, .int p1] (85, I, J, R) Q := by
  refine ow_enter (by decide) (Nat.le_of_ble_eq_true rfl) ?_
  show ow_AW ow_Y0 (ow_Z Q) M_Mo_mend (d + 1) 0 0 0 [(0, .ref 70), (1, .int p1)] [] (85, I, J, R) 0 0
  refine ow_aload_n 0 rfl d_Mo_mend_0 ?_
  refine ow_callV (b := 70) (cq := 12) (As := []) (rest := []) (d2 := d) d_Mo_mend_1 l_Mo_154 v_Mo_good (show 70 < 85 by decide) rfl (by decide) rfl (Nat.le_of_ble_eq_true rfl) (Nat.le_refl _) ⟨Nat.le_refl _, Nat.le_refl _⟩ (ow_mono T ?_)
  rintro r h' ⟨I7, J7, R7, rfl, rfl, hR7, T⟩
  show ow_AW ow_Y0 (ow_Z Q) M_Mo_mend (d + 1) 0 0 4 [(0, .ref 70), (1, .int p1)] [] (85, I7, J7, R7) 0 0
  refine ow_aload_n 0 rfl d_Mo_mend_4 ?_
  refine ow_iload_n 1 rfl d_Mo_mend_5 ?_
  refine ow_callV (b := 70) (cq := 12) (As := [.int p1]) (rest := []) (d2 := d) d_Mo_mend_6 l_Mo_272 v_Mo_isFolly (show 70 < 85 by decide) rfl (by decide) rfl (Nat.le_of_ble_eq_true rfl) (Nat.le_refl _) ⟨Nat.le_refl _, Nat.le_refl _⟩ (ow_mono T ?_)
  rintro r h' ⟨r8, I8, J8, R8, rfl, rfl, hR8, T⟩
  show ow_AW ow_Y0 (ow_Z Q) M_Mo_mend (d + 1) 0 0 9 [(0, .ref 70), (1, .int p1)] [.int r8] (85, I8, J8, R8) 0 0
  refine ow_if_ne (tgt := 18) d_Mo_mend_9 (by decide) (fun c => ?_) (fun c => ?_)
  · replace T := T.1 c
    refine ow_aload_n 0 rfl d_Mo_mend_18 ?_
    refine ow_gR (a := 73) 184 d_Mo_mend_19 rfl rfl (by decide) rfl ⟨rfl, hR8 70 15 (by decide)⟩ ?_
    refine ow_bipush (v := 7) (by decide) d_Mo_mend_22 ?_
    refine ow_iconst (v := 2) (by decide) d_Mo_mend_24 ?_
    refine ow_iload_n 1 rfl d_Mo_mend_25 ?_
    refine ow_imul d_Mo_mend_26 ?_
    refine ow_iadd d_Mo_mend_27 ?_
    refine ow_iconst (v := 1) (by decide) d_Mo_mend_28 ?_
    refine ow_iadd d_Mo_mend_29 ?_
    obtain ⟨cI, T⟩ := T
    refine ow_hiaload d_Mo_mend_30 (by decide) rfl rfl cI ?_
    refine ow_istore_n (ls2 := [(2, .int (I8 73 ((7 + (2 * p1)) + 1).toNatClampNeg)), (0, .ref 70), (1, .int p1)]) d_Mo_mend_31 (by decide) rfl ?_
    refine ow_aload_n 1 rfl d_Mo_mend_32 ?_
    refine ow_gR (a := 77) 188 d_Mo_mend_33 rfl rfl (by decide) rfl ⟨rfl, hR8 70 19 (by decide)⟩ ?_
    refine ow_iload_n 2 rfl d_Mo_mend_36 ?_
    obtain ⟨cI, T⟩ := T
    refine ow_hiaload d_Mo_mend_37 (by decide) rfl rfl cI ?_
    refine ow_iload_n 0 rfl d_Mo_mend_38 ?_
    refine ow_icmp_ne (tgt := 48) d_Mo_mend_39 (by decide) (fun c => ?_) (fun c => ?_)
    · replace T := T.1 c
      refine ow_aload_n 1 rfl d_Mo_mend_48 ?_
      refine ow_callV (b := 70) (cq := 12) (As := []) (rest := []) (d2 := d) d_Mo_mend_49 l_Mo_414 v_Mo_note (show 70 < 85 by decide) rfl (by decide) rfl (Nat.le_of_ble_eq_true rfl) (Nat.le_refl _) ⟨Nat.le_refl _, Nat.le_refl _⟩ (ow_mono T ?_)
      rintro r h' ⟨I9, J9, R9, rfl, rfl, hR9, T⟩
      show ow_AW ow_Y0 (ow_Z Q) M_Mo_mend (d + 1) 0 0 52 [(2, .int (I8 73 ((7 + (2 * p1)) + 1).toNatClampNeg)), (0, .ref 70), (1, .int p1)] [] (85, I9, J9, R9) 0 0
      refine ow_aload_n 1 rfl d_Mo_mend_52 ?_
      refine ow_gR (a := 77) 188 d_Mo_mend_53 rfl rfl (by decide) rfl ⟨rfl, hR9 70 19 (by decide)⟩ ?_
      refine ow_iload_n 2 rfl d_Mo_mend_56 ?_
      refine ow_iload_n 0 rfl d_Mo_mend_57 ?_
      obtain ⟨cI, T⟩ := T
      refine ow_hiastore d_Mo_mend_58 (by decide) rfl rfl cI ?_
      obtain ⟨I10, eI10⟩ : ∃ uu, uu = ow_u I9 77 (p1.toNatClampNeg) (I8 73 ((7 + (2 * p1)) + 1).toNatClampNeg) := ⟨_, rfl⟩
      replace T := T I10 eI10
      rw [← eI10]
      refine ow_iload_n 0 rfl d_Mo_mend_59 ?_
      exact ow_iret d_Mo_mend_60 rfl T
    · replace T := T.2 c
      refine ow_aload_n 1 rfl d_Mo_mend_42 ?_
      refine ow_iconst (v := 5) (by decide) d_Mo_mend_43 ?_
      refine ow_callV (b := 70) (cq := 12) (As := [.int 5]) (rest := []) (d2 := d) d_Mo_mend_44 l_Mo_157 v_Mo_no (show 70 < 85 by decide) rfl (by decide) rfl (Nat.le_of_ble_eq_true rfl) (Nat.le_refl _) ⟨Nat.le_refl _, Nat.le_refl _⟩ (ow_mono T ?_)
      rintro r h' ⟨r11, I11, J11, R11, rfl, rfl, hR11, T⟩
      show ow_AW ow_Y0 (ow_Z Q) M_Mo_mend (d + 1) 0 0 47 [(2, .int (I8 73 ((7 + (2 * p1)) + 1).toNatClampNeg)), (0, .ref 70), (1, .int p1)] [.int r11] (85, I11, J11, R11) 0 0
      exact ow_iret d_Mo_mend_47 rfl T
  · replace T := T.2 c
    refine ow_aload_n 0 rfl d_Mo_mend_12 ?_
    refine ow_iconst (v := 1) (by decide) d_Mo_mend_13 ?_
    refine ow_callV (b := 70) (cq := 12) (As := [.int 1]) (rest := []) (d2 := d) d_Mo_mend_14 l_Mo_157 v_Mo_no (show 70 < 85 by decide) rfl (by decide) rfl (Nat.le_of_ble_eq_true rfl) (Nat.le_refl _) ⟨Nat.le_refl _, Nat.le_refl _⟩ (ow_mono T ?_)
    rintro r h' ⟨r12, I12, J12, R12, rfl, rfl, hR12, T⟩
    show ow_AW ow_Y0 (ow_Z Q) M_Mo_mend (d + 1) 0 0 17 [(0, .ref 70), (1, .int p1)] [.int r12] (85, I12, J12, R12) 0 0
    exact ow_iret d_Mo_mend_17 rfl T
set_option maxRecDepth 4000 in
theorem t_Mo_hire {d : Nat} {I : Nat → Nat → Int32} {J : Nat → Nat → Int64} {R : Nat → Nat → Option Nat} {Q : Option Value → ow_H → Prop} {p1 : Int32}  (hR : ow_RF R) (T : (ow_AM M_Mo_good d [.ref 70] (85, I, J, R) (fun r h' => ∃ (I6 : Nat → Nat → Int32) (J6 : Nat → Nat → Int64) (R6 : Nat → Nat → Option Nat), r = none ∧ h' = (85, I6, J6, R6) ∧ ow_RF R6 ∧ (ow_AM M_Mo_isFolly d [.ref 70, .int p1] (85, I6, J6, R6) (fun r h' => ∃ (r7 : Int32) (I7 : Nat → Nat → Int32) (J7 : Nat → Nat → Int64) (R7 : Nat → Nat → Option Nat), r = some (.int r7) ∧ h' = (85, I7, J7, R7) ∧ ow_RF R7 ∧ ((¬ r7 = 0 → (ow_AM M_Mo_note d [.ref 70] (85, I7, J7, R7) (fun r h' => ∃ (I8 : Nat → Nat → Int32) (J8 : Nat → Nat → Int64) (R8 : Nat → Nat → Option Nat), r = none ∧ h' = (85, I8, J8, R8) ∧ ow_RF R8 ∧ (∀ (I9 : Nat → Nat → Int32), I9 = ow_u I8 77 12 ((I8 77 12) ^^^ ((1 : Int32) <<< (p1 &&& 31))) → Q (some (.int (((I9 77 12) >>> (p1 &&& 31)) &&& 1))) (85, I9, J8, R8))))) ∧ (r7 = 0 → (ow_AM M_Mo_no d [.ref 70, .int 1] (85, I7, J7, R7) (fun r h' => ∃ (r10 : Int32) (I10 : Nat → Nat → Int32) (J10 : Nat → Nat → Int64) (R10 : Nat → Nat → Option Nat), r = some (.int r10) ∧ h' = (85, I10, J10, R10) ∧ ow_RF R10 ∧ Q (some (.int r10)) (85, I10, J10, R10)))))))))) : ow_AM M_Mo_hire (d + 1) [.ref 70, .int p1] (85, I, J, R) Q := by
  refine ow_enter (by decide) (Nat.le_of_ble_eq_true rfl) ?_
  show ow_AW ow_Y0 (ow_Z Q) M_Mo_hire (d + 1) 0 0 0 [(0, .ref 70), (1, .int p1)] [] (85, I, J, R) 0 0
  refine ow_aload_n 0 rfl d_Mo_hire_0 ?_
  refine ow_callV (b := 70) (cq := 12) (As := []) (rest := []) (d2 := d) d_Mo_hire_1 l_Mo_154 v_Mo_good (show 70 < 85 by decide) rfl (by decide) rfl (Nat.le_of_ble_eq_true rfl) (Nat.le_refl _) ⟨Nat.le_refl _, Nat.le_refl _⟩ (ow_mono T ?_)
  rintro r h' ⟨I6, J6, R6, rfl, rfl, hR6, T⟩
  show ow_AW ow_Y0 (ow_Z Q) M_Mo_hire (d + 1) 0 0 4 [(0, .ref 70), (1, .int p1)] [] (85, I6, J6, R6) 0 0
  refine ow_aload_n 0 rfl d_Mo_hire_4 ?_
  refine ow_iload_n 1 rfl d_Mo_hire_5 ?_
  refine ow_callV (b := 70) (cq := 12) (As := [.int p1]) (rest := []) (d2 := d) d_Mo_hire_6 l_Mo_272 v_Mo_isFolly (show 70 < 85 by decide) rfl (by decide) rfl (Nat.le_of_ble_eq_true rfl) (Nat.le_refl _) ⟨Nat.le_refl _, Nat.le_refl _⟩ (ow_mono T ?_)
  rintro r h' ⟨r7, I7, J7, R7, rfl, rfl, hR7, T⟩
  show ow_AW ow_Y0 (ow_Z Q) M_Mo_hire (d + 1) 0 0 9 [(0, .ref 70), (1, .int p1)] [.int r7] (85, I7, J7, R7) 0 0
  refine ow_if_ne (tgt := 18) d_Mo_hire_9 (by decide) (fun c => ?_) (fun c => ?_)
  · replace T := T.1 c
    refine ow_aload_n 0 rfl d_Mo_hire_18 ?_
    refine ow_callV (b := 70) (cq := 12) (As := []) (rest := []) (d2 := d) d_Mo_hire_19 l_Mo_414 v_Mo_note (show 70 < 85 by decide) rfl (by decide) rfl (Nat.le_of_ble_eq_true rfl) (Nat.le_refl _) ⟨Nat.le_refl _, Nat.le_refl _⟩ (ow_mono T ?_)
    rintro r h' ⟨I8, J8, R8, rfl, rfl, hR8, T⟩
    show ow_AW ow_Y0 (ow_Z Q) M_Mo_hire (d + 1) 0 0 22 [(0, .ref 70), (1, .int p1)] [] (85, I8, J8, R8) 0 0
    refine ow_aload_n 0 rfl d_Mo_hire_22 ?_
    refine ow_gR (a := 77) 188 d_Mo_hire_23 rfl rfl (by decide) rfl ⟨rfl, hR8 70 19 (by decide)⟩ ?_
    refine ow_bipush (v := 12) (by decide) d_Mo_hire_26 ?_
    refine ow_dup2_11 rfl rfl d_Mo_hire_28 ?_
    refine ow_hiaload d_Mo_hire_29 (by decide) rfl rfl (show vp_in (12 : Int32) 14 by unfold vp_in; decide) ?_
    show ow_AW ow_Y0 (ow_Z Q) M_Mo_hire (d + 1) 0 0 30 [(0, .ref 70), (1, .int p1)] [.int (I8 77 12), .int 12, .ref 77] (85, I8, J8, R8) 0 0
    refine ow_iconst (v := 1) (by decide) d_Mo_hire_30 ?_
    refine ow_iload_n 1 rfl d_Mo_hire_31 ?_
    refine ow_ishl d_Mo_hire_32 ?_
    refine ow_ixor d_Mo_hire_33 ?_
    refine ow_hiastore d_Mo_hire_34 (by decide) rfl rfl (show vp_in (12 : Int32) 14 by unfold vp_in; decide) ?_
    obtain ⟨I9, eI9⟩ : ∃ uu, uu = ow_u I8 77 12 ((I8 77 12) ^^^ ((1 : Int32) <<< (p1 &&& 31))) := ⟨_, rfl⟩
    replace T := T I9 eI9
    show ow_AW ow_Y0 (ow_Z Q) M_Mo_hire (d + 1) 0 0 35 [(0, .ref 70), (1, .int p1)] [] (85, (ow_u I8 77 12 ((I8 77 12) ^^^ ((1 : Int32) <<< (p1 &&& 31)))), J8, R8) 0 0
    rw [← eI9]
    refine ow_aload_n 0 rfl d_Mo_hire_35 ?_
    refine ow_gR (a := 77) 188 d_Mo_hire_36 rfl rfl (by decide) rfl ⟨rfl, hR8 70 19 (by decide)⟩ ?_
    refine ow_bipush (v := 12) (by decide) d_Mo_hire_39 ?_
    refine ow_hiaload d_Mo_hire_41 (by decide) rfl rfl (show vp_in (12 : Int32) 14 by unfold vp_in; decide) ?_
    show ow_AW ow_Y0 (ow_Z Q) M_Mo_hire (d + 1) 0 0 42 [(0, .ref 70), (1, .int p1)] [.int (I9 77 12)] (85, I9, J8, R8) 0 0
    refine ow_iload_n 1 rfl d_Mo_hire_42 ?_
    refine ow_ishr d_Mo_hire_43 ?_
    refine ow_iconst (v := 1) (by decide) d_Mo_hire_44 ?_
    refine ow_iand d_Mo_hire_45 ?_
    exact ow_iret d_Mo_hire_46 rfl T
  · replace T := T.2 c
    refine ow_aload_n 0 rfl d_Mo_hire_12 ?_
    refine ow_iconst (v := 1) (by decide) d_Mo_hire_13 ?_
    refine ow_callV (b := 70) (cq := 12) (As := [.int 1]) (rest := []) (d2 := d) d_Mo_hire_14 l_Mo_157 v_Mo_no (show 70 < 85 by decide) rfl (by decide) rfl (Nat.le_of_ble_eq_true rfl) (Nat.le_refl _) ⟨Nat.le_refl _, Nat.le_refl _⟩ (ow_mono T ?_)
    rintro r h' ⟨r10, I10, J10, R10, rfl, rfl, hR10, T⟩
    show ow_AW ow_Y0 (ow_Z Q) M_Mo_hire (d + 1) 0 0 17 [(0, .ref 70), (1, .int p1)] [.int r10] (85, I10, J10, R10) 0 0
    exact ow_iret d_Mo_hire_17 rfl T
set_option maxRecDepth 4000 in
theorem t_Mo_send {d : Nat} {I : Nat → Nat → Int32} {J : Nat → Nat → Int64} {R : Nat → Nat → Option Nat} {Q : Option Value → ow_H → Prop} {p1 : Int32} {p2 : Int32}  (hR : ow_RF R) (T : (ow_AM M_Mo_good d [.ref 70] (85, I, J, R) (fun r h' => ∃ (I12 : Nat → Nat → Int32) (J12 : Nat → Nat → Int64) (R12 : Nat → Nat → Option Nat), r = none ∧ h' = (85, I12, J12, R12) ∧ ow_RF R12 ∧ (ow_AM M_Mo_isFolly d [.ref 70, .int p1] (85, I12, J12, R12) (fun r h' => ∃ (r13 : Int32) (I13 : Nat → Nat → Int32) (J13 : Nat → Nat → Int64) (R13 : Nat → Nat → Option Nat), r = some (.int r13) ∧ h' = (85, I13, J13, R13) ∧ ow_RF R13 ∧ ((r13 = 0 → (ow_AM M_Mo_isNot d [.ref 70, .int 1] (85, I13, J13, R13) (fun r h' => ∃ (r14 : Int32) (I14 : Nat → Nat → Int32) (J14 : Nat → Nat → Int64) (R14 : Nat → Nat → Option Nat), r = some (.int r14) ∧ h' = (85, I14, J14, R14) ∧ ow_RF R14 ∧ ((r14 = 0 ∨ r14 = 1) ∧ Q (some (.int r14)) (85, I14, J14, R14))))) ∧ (¬ r13 = 0 → (ow_AM M_Mo_isFolly d [.ref 70, .int p2] (85, I13, J13, R13) (fun r h' => ∃ (r15 : Int32) (I15 : Nat → Nat → Int32) (J15 : Nat → Nat → Int64) (R15 : Nat → Nat → Option Nat), r = some (.int r15) ∧ h' = (85, I15, J15, R15) ∧ ow_RF R15 ∧ ((¬ r15 = 0 → ((¬ p2 = p1 → (vp_in (6 + p1) 14 ∧ ((¬ (I15 77 (6 + p1).toNatClampNeg) = (p2 + 1) → (ow_AM M_Mo_note d [.ref 70] (85, I15, J15, R15) (fun r h' => ∃ (I16 : Nat → Nat → Int32) (J16 : Nat → Nat → Int64) (R16 : Nat → Nat → Option Nat), r = none ∧ h' = (85, I16, J16, R16) ∧ ow_RF R16 ∧ (vp_in (6 + p1) 14 ∧ (∀ (I17 : Nat → Nat → Int32), I17 = ow_u I16 77 ((6 + p1).toNatClampNeg) (p2 + 1) → Q (some (.int 1)) (85, I17, J16, R16)))))) ∧ ((I15 77 (6 + p1).toNatClampNeg) = (p2 + 1) → (ow_AM M_Mo_isNot d [.ref 70, .int 5] (85, I15, J15, R15) (fun r h' => ∃ (r18 : Int32) (I18 : Nat → Nat → Int32) (J18 : Nat → Nat → Int64) (R18 : Nat → Nat → Option Nat), r = some (.int r18) ∧ h' = (85, I18, J18, R18) ∧ ow_RF R18 ∧ ((r18 = 0 ∨ r18 = 1) ∧ Q (some (.int r18)) (85, I18, J18, R18)))))))) ∧ (p2 = p1 → (vp_in (6 + p1) 14 ∧ ((¬ (I15 77 (6 + p1).toNatClampNeg) = 0 → (ow_AM M_Mo_note d [.ref 70] (85, I15, J15, R15) (fun r h' => ∃ (I19 : Nat → Nat → Int32) (J19 : Nat → Nat → Int64) (R19 : Nat → Nat → Option Nat), r = none ∧ h' = (85, I19, J19, R19) ∧ ow_RF R19 ∧ (vp_in (6 + p1) 14 ∧ (∀ (I20 : Nat → Nat → Int32), I20 = ow_u I19 77 ((6 + p1).toNatClampNeg) 0 → Q (some (.int 1)) (85, I20, J19, R19)))))) ∧ ((I15 77 (6 + p1).toNatClampNeg) = 0 → (ow_AM M_Mo_isNot d [.ref 70, .int 5] (85, I15, J15, R15) (fun r h' => ∃ (r21 : Int32) (I21 : Nat → Nat → Int32) (J21 : Nat → Nat → Int64) (R21 : Nat → Nat → Option Nat), r = some (.int r21) ∧ h' = (85, I21, J21, R21) ∧ ow_RF R21 ∧ ((r21 = 0 ∨ r21 = 1) ∧ Q (some (.int r21)) (85, I21, J21, R21)))))))))) ∧ (r15 = 0 → (ow_AM M_Mo_isNot d [.ref 70, .int 1] (85, I15, J15, R15) (fun r h' => ∃ (r22 : Int32) (I22 : Nat → Nat → Int32) (J22 : Nat → Nat → Int64) (R22 : Nat → Nat → Option Nat), r = some (.int r22) ∧ h' = (85, I22, J22, R22) ∧ ow_RF R22 ∧ ((r22 = 0 ∨ r22 = 1) ∧ Q (some (.int r22)) (85, I22, J22, R22))))))))))))))) : ow_AM M_Mo_send (d + 1) [.ref 70, .int p1, .int p2] (85, I, J, R) Q := by
  refine ow_enter (by decide) (Nat.le_of_ble_eq_true rfl) ?_
  show ow_AW ow_Y0 (ow_Z Q) M_Mo_send (d + 1) 0 0 0 [(0, .ref 70), (1, .int p1), (2, .int p2)] [] (85, I, J, R) 0 0
  refine ow_aload_n 0 rfl d_Mo_send_0 ?_
  refine ow_callV (b := 70) (cq := 12) (As := []) (rest := []) (d2 := d) d_Mo_send_1 l_Mo_154 v_Mo_good (show 70 < 85 by decide) rfl (by decide) rfl (Nat.le_of_ble_eq_true rfl) (Nat.le_refl _) ⟨Nat.le_refl _, Nat.le_refl _⟩ (ow_mono T ?_)
  rintro r h' ⟨I12, J12, R12, rfl, rfl, hR12, T⟩
  show ow_AW ow_Y0 (ow_Z Q) M_Mo_send (d + 1) 0 0 4 [(0, .ref 70), (1, .int p1), (2, .int p2)] [] (85, I12, J12, R12) 0 0
  refine ow_aload_n 0 rfl d_Mo_send_4 ?_
  refine ow_iload_n 1 rfl d_Mo_send_5 ?_
  refine ow_callV (b := 70) (cq := 12) (As := [.int p1]) (rest := []) (d2 := d) d_Mo_send_6 l_Mo_272 v_Mo_isFolly (show 70 < 85 by decide) rfl (by decide) rfl (Nat.le_of_ble_eq_true rfl) (Nat.le_refl _) ⟨Nat.le_refl _, Nat.le_refl _⟩ (ow_mono T ?_)
  rintro r h' ⟨r13, I13, J13, R13, rfl, rfl, hR13, T⟩
  show ow_AW ow_Y0 (ow_Z Q) M_Mo_send (d + 1) 0 0 9 [(0, .ref 70), (1, .int p1), (2, .int p2)] [.int r13] (85, I13, J13, R13) 0 0
  refine ow_if_eq (tgt := 20) d_Mo_send_9 (by decide) (fun c => ?_) (fun c => ?_)
  · replace T := T.1 c
    refine ow_aload_n 0 rfl d_Mo_send_20 ?_
    refine ow_iconst (v := 1) (by decide) d_Mo_send_21 ?_
    refine ow_callV (b := 70) (cq := 12) (As := [.int 1]) (rest := []) (d2 := d) d_Mo_send_22 l_Mo_420 v_Mo_isNot (show 70 < 85 by decide) rfl (by decide) rfl (Nat.le_of_ble_eq_true rfl) (Nat.le_refl _) ⟨Nat.le_refl _, Nat.le_refl _⟩ (ow_mono T ?_)
    rintro r h' ⟨r14, I14, J14, R14, rfl, rfl, hR14, T⟩
    show ow_AW ow_Y0 (ow_Z Q) M_Mo_send (d + 1) 0 0 25 [(0, .ref 70), (1, .int p1), (2, .int p2)] [.int r14] (85, I14, J14, R14) 0 0
    exact ow_zret d_Mo_send_25 rfl T.1 T.2
  · replace T := T.2 c
    refine ow_aload_n 0 rfl d_Mo_send_12 ?_
    refine ow_iload_n 2 rfl d_Mo_send_13 ?_
    refine ow_callV (b := 70) (cq := 12) (As := [.int p2]) (rest := []) (d2 := d) d_Mo_send_14 l_Mo_272 v_Mo_isFolly (show 70 < 85 by decide) rfl (by decide) rfl (Nat.le_of_ble_eq_true rfl) (Nat.le_refl _) ⟨Nat.le_refl _, Nat.le_refl _⟩ (ow_mono T ?_)
    rintro r h' ⟨r15, I15, J15, R15, rfl, rfl, hR15, T⟩
    show ow_AW ow_Y0 (ow_Z Q) M_Mo_send (d + 1) 0 0 17 [(0, .ref 70), (1, .int p1), (2, .int p2)] [.int r15] (85, I15, J15, R15) 0 0
    refine ow_if_ne (tgt := 26) d_Mo_send_17 (by decide) (fun c => ?_) (fun c => ?_)
    · replace T := T.1 c
      refine ow_iload_n 2 rfl d_Mo_send_26 ?_
      refine ow_iload_n 1 rfl d_Mo_send_27 ?_
      refine ow_icmp_ne (tgt := 35) d_Mo_send_28 (by decide) (fun c => ?_) (fun c => ?_)
      · replace T := T.1 c
        refine ow_iload_n 2 rfl d_Mo_send_35 ?_
        refine ow_iconst (v := 1) (by decide) d_Mo_send_36 ?_
        refine ow_iadd d_Mo_send_37 ?_
        refine ow_istore_n (ls2 := [(3, .int (p2 + 1)), (0, .ref 70), (1, .int p1), (2, .int p2)]) d_Mo_send_38 (by decide) rfl ?_
        refine ow_aload_n 1 rfl d_Mo_send_39 ?_
        refine ow_gR (a := 77) 188 d_Mo_send_40 rfl rfl (by decide) rfl ⟨rfl, hR15 70 19 (by decide)⟩ ?_
        refine ow_bipush (v := 6) (by decide) d_Mo_send_43 ?_
        refine ow_iload_n 2 rfl d_Mo_send_45 ?_
        refine ow_iadd d_Mo_send_46 ?_
        obtain ⟨cI, T⟩ := T
        refine ow_hiaload d_Mo_send_47 (by decide) rfl rfl cI ?_
        refine ow_iload_n 0 rfl d_Mo_send_48 ?_
        refine ow_icmp_ne (tgt := 58) d_Mo_send_49 (by decide) (fun c => ?_) (fun c => ?_)
        · replace T := T.1 c
          refine ow_aload_n 1 rfl d_Mo_send_58 ?_
          refine ow_callV (b := 70) (cq := 12) (As := []) (rest := []) (d2 := d) d_Mo_send_59 l_Mo_414 v_Mo_note (show 70 < 85 by decide) rfl (by decide) rfl (Nat.le_of_ble_eq_true rfl) (Nat.le_refl _) ⟨Nat.le_refl _, Nat.le_refl _⟩ (ow_mono T ?_)
          rintro r h' ⟨I16, J16, R16, rfl, rfl, hR16, T⟩
          show ow_AW ow_Y0 (ow_Z Q) M_Mo_send (d + 1) 0 0 62 [(3, .int (p2 + 1)), (0, .ref 70), (1, .int p1), (2, .int p2)] [] (85, I16, J16, R16) 0 0
          refine ow_aload_n 1 rfl d_Mo_send_62 ?_
          refine ow_gR (a := 77) 188 d_Mo_send_63 rfl rfl (by decide) rfl ⟨rfl, hR16 70 19 (by decide)⟩ ?_
          refine ow_bipush (v := 6) (by decide) d_Mo_send_66 ?_
          refine ow_iload_n 2 rfl d_Mo_send_68 ?_
          refine ow_iadd d_Mo_send_69 ?_
          refine ow_iload_n 0 rfl d_Mo_send_70 ?_
          obtain ⟨cI, T⟩ := T
          refine ow_hiastore d_Mo_send_71 (by decide) rfl rfl cI ?_
          obtain ⟨I17, eI17⟩ : ∃ uu, uu = ow_u I16 77 ((6 + p1).toNatClampNeg) (p2 + 1) := ⟨_, rfl⟩
          replace T := T I17 eI17
          rw [← eI17]
          refine ow_iconst (v := 1) (by decide) d_Mo_send_72 ?_
          exact ow_zret d_Mo_send_73 rfl (by decide) T
        · replace T := T.2 c
          refine ow_aload_n 1 rfl d_Mo_send_52 ?_
          refine ow_iconst (v := 5) (by decide) d_Mo_send_53 ?_
          refine ow_callV (b := 70) (cq := 12) (As := [.int 5]) (rest := []) (d2 := d) d_Mo_send_54 l_Mo_420 v_Mo_isNot (show 70 < 85 by decide) rfl (by decide) rfl (Nat.le_of_ble_eq_true rfl) (Nat.le_refl _) ⟨Nat.le_refl _, Nat.le_refl _⟩ (ow_mono T ?_)
          rintro r h' ⟨r18, I18, J18, R18, rfl, rfl, hR18, T⟩
          show ow_AW ow_Y0 (ow_Z Q) M_Mo_send (d + 1) 0 0 57 [(3, .int (p2 + 1)), (0, .ref 70), (1, .int p1), (2, .int p2)] [.int r18] (85, I18, J18, R18) 0 0
          exact ow_zret d_Mo_send_57 rfl T.1 T.2
      · replace T := T.2 c
        refine ow_iconst (v := 0) (by decide) d_Mo_send_31 ?_
        refine ow_goto (tgt := 38) d_Mo_send_32 (by decide) ?_
        refine ow_istore_n (ls2 := [(3, .int 0), (0, .ref 70), (1, .int p1), (2, .int p2)]) d_Mo_send_38 (by decide) rfl ?_
        refine ow_aload_n 1 rfl d_Mo_send_39 ?_
        refine ow_gR (a := 77) 188 d_Mo_send_40 rfl rfl (by decide) rfl ⟨rfl, hR15 70 19 (by decide)⟩ ?_
        refine ow_bipush (v := 6) (by decide) d_Mo_send_43 ?_
        refine ow_iload_n 2 rfl d_Mo_send_45 ?_
        refine ow_iadd d_Mo_send_46 ?_
        obtain ⟨cI, T⟩ := T
        refine ow_hiaload d_Mo_send_47 (by decide) rfl rfl cI ?_
        refine ow_iload_n 0 rfl d_Mo_send_48 ?_
        refine ow_icmp_ne (tgt := 58) d_Mo_send_49 (by decide) (fun c => ?_) (fun c => ?_)
        · replace T := T.1 c
          refine ow_aload_n 1 rfl d_Mo_send_58 ?_
          refine ow_callV (b := 70) (cq := 12) (As := []) (rest := []) (d2 := d) d_Mo_send_59 l_Mo_414 v_Mo_note (show 70 < 85 by decide) rfl (by decide) rfl (Nat.le_of_ble_eq_true rfl) (Nat.le_refl _) ⟨Nat.le_refl _, Nat.le_refl _⟩ (ow_mono T ?_)
          rintro r h' ⟨I19, J19, R19, rfl, rfl, hR19, T⟩
          show ow_AW ow_Y0 (ow_Z Q) M_Mo_send (d + 1) 0 0 62 [(3, .int 0), (0, .ref 70), (1, .int p1), (2, .int p2)] [] (85, I19, J19, R19) 0 0
          refine ow_aload_n 1 rfl d_Mo_send_62 ?_
          refine ow_gR (a := 77) 188 d_Mo_send_63 rfl rfl (by decide) rfl ⟨rfl, hR19 70 19 (by decide)⟩ ?_
          refine ow_bipush (v := 6) (by decide) d_Mo_send_66 ?_
          refine ow_iload_n 2 rfl d_Mo_send_68 ?_
          refine ow_iadd d_Mo_send_69 ?_
          refine ow_iload_n 0 rfl d_Mo_send_70 ?_
          obtain ⟨cI, T⟩ := T
          refine ow_hiastore d_Mo_send_71 (by decide) rfl rfl cI ?_
          obtain ⟨I20, eI20⟩ : ∃ uu, uu = ow_u I19 77 ((6 + p1).toNatClampNeg) 0 := ⟨_, rfl⟩
          replace T := T I20 eI20
          rw [← eI20]
          refine ow_iconst (v := 1) (by decide) d_Mo_send_72 ?_
          exact ow_zret d_Mo_send_73 rfl (by decide) T
        · replace T := T.2 c
          refine ow_aload_n 1 rfl d_Mo_send_52 ?_
          refine ow_iconst (v := 5) (by decide) d_Mo_send_53 ?_
          refine ow_callV (b := 70) (cq := 12) (As := [.int 5]) (rest := []) (d2 := d) d_Mo_send_54 l_Mo_420 v_Mo_isNot (show 70 < 85 by decide) rfl (by decide) rfl (Nat.le_of_ble_eq_true rfl) (Nat.le_refl _) ⟨Nat.le_refl _, Nat.le_refl _⟩ (ow_mono T ?_)
          rintro r h' ⟨r21, I21, J21, R21, rfl, rfl, hR21, T⟩
          show ow_AW ow_Y0 (ow_Z Q) M_Mo_send (d + 1) 0 0 57 [(3, .int 0), (0, .ref 70), (1, .int p1), (2, .int p2)] [.int r21] (85, I21, J21, R21) 0 0
          exact ow_zret d_Mo_send_57 rfl T.1 T.2
    · replace T := T.2 c
      refine ow_aload_n 0 rfl d_Mo_send_20 ?_
      refine ow_iconst (v := 1) (by decide) d_Mo_send_21 ?_
      refine ow_callV (b := 70) (cq := 12) (As := [.int 1]) (rest := []) (d2 := d) d_Mo_send_22 l_Mo_420 v_Mo_isNot (show 70 < 85 by decide) rfl (by decide) rfl (Nat.le_of_ble_eq_true rfl) (Nat.le_refl _) ⟨Nat.le_refl _, Nat.le_refl _⟩ (ow_mono T ?_)
      rintro r h' ⟨r22, I22, J22, R22, rfl, rfl, hR22, T⟩
      show ow_AW ow_Y0 (ow_Z Q) M_Mo_send (d + 1) 0 0 25 [(0, .ref 70), (1, .int p1), (2, .int p2)] [.int r22] (85, I22, J22, R22) 0 0
      exact ow_zret d_Mo_send_25 rfl T.1 T.2
set_option maxRecDepth 4000 in
theorem t_Mo_undo {d : Nat} {I : Nat → Nat → Int32} {J : Nat → Nat → Int64} {R : Nat → Nat → Option Nat} {Q : Option Value → ow_H → Prop}   (hR : ow_RF R) (T : (ow_AM M_Mo_good d [.ref 70] (85, I, J, R) (fun r h' => ∃ (I5 : Nat → Nat → Int32) (J5 : Nat → Nat → Int64) (R5 : Nat → Nat → Option Nat), r = none ∧ h' = (85, I5, J5, R5) ∧ ow_RF R5 ∧ ((¬ (I5 70 22) = 0 → (∀ (I6 : Nat → Nat → Int32), I6 = ow_u I5 70 22 ((I5 70 22) - 1) → (ow_AM M_Mo_copy d [.ref 78, .int (14 * (I6 70 22)), .ref 77, .int 0, .int 14] (85, I6, J5, R5) (fun r h' => ∃ (I7 : Nat → Nat → Int32) (J7 : Nat → Nat → Int64) (R7 : Nat → Nat → Option Nat), r = none ∧ h' = (85, I7, J7, R7) ∧ ow_RF R7 ∧ Q (some (.int 1)) (85, I7, J7, R7))))) ∧ ((I5 70 22) = 0 → (ow_AM M_Mo_isNot d [.ref 70, .int 6] (85, I5, J5, R5) (fun r h' => ∃ (r8 : Int32) (I8 : Nat → Nat → Int32) (J8 : Nat → Nat → Int64) (R8 : Nat → Nat → Option Nat), r = some (.int r8) ∧ h' = (85, I8, J8, R8) ∧ ow_RF R8 ∧ ((r8 = 0 ∨ r8 = 1) ∧ Q (some (.int r8)) (85, I8, J8, R8))))))))) : ow_AM M_Mo_undo (d + 1) [.ref 70] (85, I, J, R) Q := by
  refine ow_enter (by decide) (Nat.le_of_ble_eq_true rfl) ?_
  show ow_AW ow_Y0 (ow_Z Q) M_Mo_undo (d + 1) 0 0 0 [(0, .ref 70)] [] (85, I, J, R) 0 0
  refine ow_aload_n 0 rfl d_Mo_undo_0 ?_
  refine ow_callV (b := 70) (cq := 12) (As := []) (rest := []) (d2 := d) d_Mo_undo_1 l_Mo_154 v_Mo_good (show 70 < 85 by decide) rfl (by decide) rfl (Nat.le_of_ble_eq_true rfl) (Nat.le_refl _) ⟨Nat.le_refl _, Nat.le_refl _⟩ (ow_mono T ?_)
  rintro r h' ⟨I5, J5, R5, rfl, rfl, hR5, T⟩
  show ow_AW ow_Y0 (ow_Z Q) M_Mo_undo (d + 1) 0 0 4 [(0, .ref 70)] [] (85, I5, J5, R5) 0 0
  refine ow_aload_n 0 rfl d_Mo_undo_4 ?_
  refine ow_gI 191 d_Mo_undo_5 rfl rfl (by decide) rfl (Or.inl rfl) ?_
  refine ow_if_ne (tgt := 18) d_Mo_undo_8 (by decide) (fun c => ?_) (fun c => ?_)
  · replace T := T.1 c
    refine ow_aload_n 0 rfl d_Mo_undo_18 ?_
    refine ow_dup rfl d_Mo_undo_19 ?_
    refine ow_gI 191 d_Mo_undo_20 rfl rfl (by decide) rfl (Or.inl rfl) ?_
    refine ow_iconst (v := 1) (by decide) d_Mo_undo_23 ?_
    refine ow_isub d_Mo_undo_24 ?_
    refine ow_pI 191 d_Mo_undo_25 rfl rfl (by decide) rfl rfl rfl ?_
    obtain ⟨I6, eI6⟩ : ∃ uu, uu = ow_u I5 70 22 ((I5 70 22) - 1) := ⟨_, rfl⟩
    replace T := T I6 eI6
    rw [← eI6]
    refine ow_aload_n 0 rfl d_Mo_undo_28 ?_
    refine ow_gR (a := 78) 189 d_Mo_undo_29 rfl rfl (by decide) rfl ⟨rfl, hR5 70 20 (by decide)⟩ ?_
    refine ow_bipush (v := 14) (by decide) d_Mo_undo_32 ?_
    refine ow_aload_n 0 rfl d_Mo_undo_34 ?_
    refine ow_gI 191 d_Mo_undo_35 rfl rfl (by decide) rfl (Or.inl rfl) ?_
    refine ow_imul d_Mo_undo_38 ?_
    refine ow_aload_n 0 rfl d_Mo_undo_39 ?_
    refine ow_gR (a := 77) 188 d_Mo_undo_40 rfl rfl (by decide) rfl ⟨rfl, hR5 70 19 (by decide)⟩ ?_
    refine ow_iconst (v := 0) (by decide) d_Mo_undo_43 ?_
    refine ow_bipush (v := 14) (by decide) d_Mo_undo_44 ?_
    refine ow_callS (As := [.ref 78, .int (14 * (I6 70 22)), .ref 77, .int 0, .int 14]) (rest := []) (d2 := d) d_Mo_undo_46 l_Mo_163 v_Mo_copy (Nat.le_of_ble_eq_true rfl) (Nat.le_refl _) ⟨Nat.le_refl _, Nat.le_refl _⟩ (ow_mono T ?_)
    rintro r h' ⟨I7, J7, R7, rfl, rfl, hR7, T⟩
    show ow_AW ow_Y0 (ow_Z Q) M_Mo_undo (d + 1) 0 0 49 [(0, .ref 70)] [] (85, I7, J7, R7) 0 0
    refine ow_iconst (v := 1) (by decide) d_Mo_undo_49 ?_
    exact ow_zret d_Mo_undo_50 rfl (by decide) T
  · replace T := T.2 c
    refine ow_aload_n 0 rfl d_Mo_undo_11 ?_
    refine ow_bipush (v := 6) (by decide) d_Mo_undo_12 ?_
    refine ow_callV (b := 70) (cq := 12) (As := [.int 6]) (rest := []) (d2 := d) d_Mo_undo_14 l_Mo_420 v_Mo_isNot (show 70 < 85 by decide) rfl (by decide) rfl (Nat.le_of_ble_eq_true rfl) (Nat.le_refl _) ⟨Nat.le_refl _, Nat.le_refl _⟩ (ow_mono T ?_)
    rintro r h' ⟨r8, I8, J8, R8, rfl, rfl, hR8, T⟩
    show ow_AW ow_Y0 (ow_Z Q) M_Mo_undo (d + 1) 0 0 17 [(0, .ref 70)] [.int r8] (85, I8, J8, R8) 0 0
    exact ow_zret d_Mo_undo_17 rfl T.1 T.2
