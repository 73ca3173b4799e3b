/-! Own rows, by program: Mo_shapedBy Mo_tryOf Mo_tryLetter Mo_tryLeaves Mo_judge Mo_votesOf Mo_allEstates Mo_power Mo_rule Mo_suesOf Mo_sues Mo_seekRests Mo_rests Mo_rest -/
theorem d_Mo_shapedBy_0 : decode M_Mo_shapedBy.2.1 0 = .ok (.aload_n 0, 1) := by decide +kernel
theorem d_Mo_shapedBy_1 : decode M_Mo_shapedBy.2.1 1 = .ok (.invokevirtual 154, 3) := by decide +kernel
theorem d_Mo_shapedBy_4 : decode M_Mo_shapedBy.2.1 4 = .ok (.aload_n 0, 1) := by decide +kernel
theorem d_Mo_shapedBy_5 : decode M_Mo_shapedBy.2.1 5 = .ok (.aload_n 0, 1) := by decide +kernel
theorem d_Mo_shapedBy_6 : decode M_Mo_shapedBy.2.1 6 = .ok (.iload_n 1, 1) := by decide +kernel
theorem d_Mo_shapedBy_7 : decode M_Mo_shapedBy.2.1 7 = .ok (.invokevirtual 355, 3) := by decide +kernel
theorem d_Mo_shapedBy_10 : decode M_Mo_shapedBy.2.1 10 = .ok (.iload_n 2, 1) := by decide +kernel
theorem d_Mo_shapedBy_11 : decode M_Mo_shapedBy.2.1 11 = .ok (.iconst 0, 1) := by decide +kernel
theorem d_Mo_shapedBy_12 : decode M_Mo_shapedBy.2.1 12 = .ok (.iconst 4, 1) := by decide +kernel
theorem d_Mo_shapedBy_13 : decode M_Mo_shapedBy.2.1 13 = .ok (.invokestatic 142, 3) := by decide +kernel
theorem d_Mo_shapedBy_16 : decode M_Mo_shapedBy.2.1 16 = .ok (.invokevirtual 323, 3) := by decide +kernel
theorem d_Mo_shapedBy_19 : decode M_Mo_shapedBy.2.1 19 = .ok (.istore_n 3, 1) := by decide +kernel
theorem d_Mo_shapedBy_20 : decode M_Mo_shapedBy.2.1 20 = .ok (.iload_n 3, 1) := by decide +kernel
theorem d_Mo_shapedBy_21 : decode M_Mo_shapedBy.2.1 21 = .ok (.ifCond .eq 9, 3) := by decide +kernel
theorem d_Mo_shapedBy_24 : decode M_Mo_shapedBy.2.1 24 = .ok (.aload_n 0, 1) := by decide +kernel
theorem d_Mo_shapedBy_25 : decode M_Mo_shapedBy.2.1 25 = .ok (.iload_n 3, 1) := by decide +kernel
theorem d_Mo_shapedBy_26 : decode M_Mo_shapedBy.2.1 26 = .ok (.invokevirtual 157, 3) := by decide +kernel
theorem d_Mo_shapedBy_29 : decode M_Mo_shapedBy.2.1 29 = .ok (.ireturn, 1) := by decide +kernel
theorem d_Mo_shapedBy_30 : decode M_Mo_shapedBy.2.1 30 = .ok (.iconst 0, 1) := by decide +kernel
theorem d_Mo_shapedBy_31 : decode M_Mo_shapedBy.2.1 31 = .ok (.istore 4, 2) := by decide +kernel
theorem d_Mo_shapedBy_33 : decode M_Mo_shapedBy.2.1 33 = .ok (.iconst 0, 1) := by decide +kernel
theorem d_Mo_shapedBy_34 : decode M_Mo_shapedBy.2.1 34 = .ok (.istore 5, 2) := by decide +kernel
theorem d_Mo_shapedBy_36 : decode M_Mo_shapedBy.2.1 36 = .ok (.iload 5, 2) := by decide +kernel
theorem d_Mo_shapedBy_38 : decode M_Mo_shapedBy.2.1 38 = .ok (.aload_n 0, 1) := by decide +kernel
theorem d_Mo_shapedBy_39 : decode M_Mo_shapedBy.2.1 39 = .ok (.invokevirtual 349, 3) := by decide +kernel
theorem d_Mo_shapedBy_42 : decode M_Mo_shapedBy.2.1 42 = .ok (.if_icmp .ge 41, 3) := by decide +kernel
theorem d_Mo_shapedBy_45 : decode M_Mo_shapedBy.2.1 45 = .ok (.iload 4, 2) := by decide +kernel
theorem d_Mo_shapedBy_47 : decode M_Mo_shapedBy.2.1 47 = .ok (.aload_n 0, 1) := by decide +kernel
theorem d_Mo_shapedBy_48 : decode M_Mo_shapedBy.2.1 48 = .ok (.iload 5, 2) := by decide +kernel
theorem d_Mo_shapedBy_50 : decode M_Mo_shapedBy.2.1 50 = .ok (.invokevirtual 352, 3) := by decide +kernel
theorem d_Mo_shapedBy_53 : decode M_Mo_shapedBy.2.1 53 = .ok (.bipush (-2), 2) := by decide +kernel
theorem d_Mo_shapedBy_55 : decode M_Mo_shapedBy.2.1 55 = .ok (.if_icmp .ne 18, 3) := by decide +kernel
theorem d_Mo_shapedBy_58 : decode M_Mo_shapedBy.2.1 58 = .ok (.aload_n 0, 1) := by decide +kernel
theorem d_Mo_shapedBy_59 : decode M_Mo_shapedBy.2.1 59 = .ok (.iload 5, 2) := by decide +kernel
theorem d_Mo_shapedBy_61 : decode M_Mo_shapedBy.2.1 61 = .ok (.iload_n 1, 1) := by decide +kernel
theorem d_Mo_shapedBy_62 : decode M_Mo_shapedBy.2.1 62 = .ok (.invokevirtual 346, 3) := by decide +kernel
theorem d_Mo_shapedBy_65 : decode M_Mo_shapedBy.2.1 65 = .ok (.iload_n 2, 1) := by decide +kernel
theorem d_Mo_shapedBy_66 : decode M_Mo_shapedBy.2.1 66 = .ok (.if_icmp .ne 7, 3) := by decide +kernel
theorem d_Mo_shapedBy_69 : decode M_Mo_shapedBy.2.1 69 = .ok (.iconst 1, 1) := by decide +kernel
theorem d_Mo_shapedBy_70 : decode M_Mo_shapedBy.2.1 70 = .ok (.goto 4, 3) := by decide +kernel
theorem d_Mo_shapedBy_73 : decode M_Mo_shapedBy.2.1 73 = .ok (.iconst 0, 1) := by decide +kernel
theorem d_Mo_shapedBy_74 : decode M_Mo_shapedBy.2.1 74 = .ok (.iadd, 1) := by decide +kernel
theorem d_Mo_shapedBy_75 : decode M_Mo_shapedBy.2.1 75 = .ok (.istore 4, 2) := by decide +kernel
theorem d_Mo_shapedBy_77 : decode M_Mo_shapedBy.2.1 77 = .ok (.iinc 5 1, 3) := by decide +kernel
theorem d_Mo_shapedBy_80 : decode M_Mo_shapedBy.2.1 80 = .ok (.goto (-44), 3) := by decide +kernel
theorem d_Mo_shapedBy_83 : decode M_Mo_shapedBy.2.1 83 = .ok (.iload 4, 2) := by decide +kernel
theorem d_Mo_shapedBy_85 : decode M_Mo_shapedBy.2.1 85 = .ok (.ireturn, 1) := by decide +kernel
theorem d_Mo_tryOf_0 : decode M_Mo_tryOf.2.1 0 = .ok (.iconst 0, 1) := by decide +kernel
theorem d_Mo_tryOf_1 : decode M_Mo_tryOf.2.1 1 = .ok (.istore_n 1, 1) := by decide +kernel
theorem d_Mo_tryOf_2 : decode M_Mo_tryOf.2.1 2 = .ok (.iload_n 1, 1) := by decide +kernel
theorem d_Mo_tryOf_3 : decode M_Mo_tryOf.2.1 3 = .ok (.bipush 36, 2) := by decide +kernel
theorem d_Mo_tryOf_5 : decode M_Mo_tryOf.2.1 5 = .ok (.if_icmp .ge 16, 3) := by decide +kernel
theorem d_Mo_tryOf_8 : decode M_Mo_tryOf.2.1 8 = .ok (.aload_n 0, 1) := by decide +kernel
theorem d_Mo_tryOf_9 : decode M_Mo_tryOf.2.1 9 = .ok (.getfield 50, 3) := by decide +kernel
theorem d_Mo_tryOf_12 : decode M_Mo_tryOf.2.1 12 = .ok (.iload_n 1, 1) := by decide +kernel
theorem d_Mo_tryOf_13 : decode M_Mo_tryOf.2.1 13 = .ok (.iconst 0, 1) := by decide +kernel
theorem d_Mo_tryOf_14 : decode M_Mo_tryOf.2.1 14 = .ok (.iastore, 1) := by decide +kernel
theorem d_Mo_tryOf_15 : decode M_Mo_tryOf.2.1 15 = .ok (.iinc 1 1, 3) := by decide +kernel
theorem d_Mo_tryOf_18 : decode M_Mo_tryOf.2.1 18 = .ok (.goto (-16), 3) := by decide +kernel
theorem d_Mo_tryOf_21 : decode M_Mo_tryOf.2.1 21 = .ok (.iconst 0, 1) := by decide +kernel
theorem d_Mo_tryOf_22 : decode M_Mo_tryOf.2.1 22 = .ok (.istore_n 1, 1) := by decide +kernel
theorem d_Mo_tryOf_23 : decode M_Mo_tryOf.2.1 23 = .ok (.iload_n 1, 1) := by decide +kernel
theorem d_Mo_tryOf_24 : decode M_Mo_tryOf.2.1 24 = .ok (.aload_n 0, 1) := by decide +kernel
theorem d_Mo_tryOf_25 : decode M_Mo_tryOf.2.1 25 = .ok (.invokevirtual 349, 3) := by decide +kernel
theorem d_Mo_tryOf_28 : decode M_Mo_tryOf.2.1 28 = .ok (.if_icmp .ge 74, 3) := by decide +kernel
theorem d_Mo_tryOf_31 : decode M_Mo_tryOf.2.1 31 = .ok (.aload_n 0, 1) := by decide +kernel
theorem d_Mo_tryOf_32 : decode M_Mo_tryOf.2.1 32 = .ok (.iload_n 1, 1) := by decide +kernel
theorem d_Mo_tryOf_33 : decode M_Mo_tryOf.2.1 33 = .ok (.invokevirtual 352, 3) := by decide +kernel
theorem d_Mo_tryOf_36 : decode M_Mo_tryOf.2.1 36 = .ok (.bipush (-2), 2) := by decide +kernel
theorem d_Mo_tryOf_38 : decode M_Mo_tryOf.2.1 38 = .ok (.if_icmp .eq 6, 3) := by decide +kernel
theorem d_Mo_tryOf_41 : decode M_Mo_tryOf.2.1 41 = .ok (.goto 55, 3) := by decide +kernel
theorem d_Mo_tryOf_44 : decode M_Mo_tryOf.2.1 44 = .ok (.iconst 0, 1) := by decide +kernel
theorem d_Mo_tryOf_45 : decode M_Mo_tryOf.2.1 45 = .ok (.istore_n 2, 1) := by decide +kernel
theorem d_Mo_tryOf_46 : decode M_Mo_tryOf.2.1 46 = .ok (.iload_n 2, 1) := by decide +kernel
theorem d_Mo_tryOf_47 : decode M_Mo_tryOf.2.1 47 = .ok (.iconst 2, 1) := by decide +kernel
theorem d_Mo_tryOf_48 : decode M_Mo_tryOf.2.1 48 = .ok (.aload_n 0, 1) := by decide +kernel
theorem d_Mo_tryOf_49 : decode M_Mo_tryOf.2.1 49 = .ok (.getfield 20, 3) := by decide +kernel
theorem d_Mo_tryOf_52 : decode M_Mo_tryOf.2.1 52 = .ok (.iconst 2, 1) := by decide +kernel
theorem d_Mo_tryOf_53 : decode M_Mo_tryOf.2.1 53 = .ok (.iaload, 1) := by decide +kernel
theorem d_Mo_tryOf_54 : decode M_Mo_tryOf.2.1 54 = .ok (.imul, 1) := by decide +kernel
theorem d_Mo_tryOf_55 : decode M_Mo_tryOf.2.1 55 = .ok (.if_icmp .ge 41, 3) := by decide +kernel
theorem d_Mo_tryOf_58 : decode M_Mo_tryOf.2.1 58 = .ok (.aload_n 0, 1) := by decide +kernel
theorem d_Mo_tryOf_59 : decode M_Mo_tryOf.2.1 59 = .ok (.aload_n 0, 1) := by decide +kernel
theorem d_Mo_tryOf_60 : decode M_Mo_tryOf.2.1 60 = .ok (.getfield 26, 3) := by decide +kernel
theorem d_Mo_tryOf_63 : decode M_Mo_tryOf.2.1 63 = .ok (.iload_n 2, 1) := by decide +kernel
theorem d_Mo_tryOf_64 : decode M_Mo_tryOf.2.1 64 = .ok (.invokevirtual 292, 3) := by decide +kernel
theorem d_Mo_tryOf_67 : decode M_Mo_tryOf.2.1 67 = .ok (.istore_n 3, 1) := by decide +kernel
theorem d_Mo_tryOf_68 : decode M_Mo_tryOf.2.1 68 = .ok (.aload_n 0, 1) := by decide +kernel
theorem d_Mo_tryOf_69 : decode M_Mo_tryOf.2.1 69 = .ok (.getfield 50, 3) := by decide +kernel
theorem d_Mo_tryOf_72 : decode M_Mo_tryOf.2.1 72 = .ok (.iconst 3, 1) := by decide +kernel
theorem d_Mo_tryOf_73 : decode M_Mo_tryOf.2.1 73 = .ok (.iload_n 2, 1) := by decide +kernel
theorem d_Mo_tryOf_74 : decode M_Mo_tryOf.2.1 74 = .ok (.imul, 1) := by decide +kernel
theorem d_Mo_tryOf_75 : decode M_Mo_tryOf.2.1 75 = .ok (.iload_n 3, 1) := by decide +kernel
theorem d_Mo_tryOf_76 : decode M_Mo_tryOf.2.1 76 = .ok (.ifCond .ge 7, 3) := by decide +kernel
theorem d_Mo_tryOf_79 : decode M_Mo_tryOf.2.1 79 = .ok (.iconst 2, 1) := by decide +kernel
theorem d_Mo_tryOf_80 : decode M_Mo_tryOf.2.1 80 = .ok (.goto 4, 3) := by decide +kernel
theorem d_Mo_tryOf_83 : decode M_Mo_tryOf.2.1 83 = .ok (.iload_n 3, 1) := by decide +kernel
theorem d_Mo_tryOf_84 : decode M_Mo_tryOf.2.1 84 = .ok (.iadd, 1) := by decide +kernel
theorem d_Mo_tryOf_85 : decode M_Mo_tryOf.2.1 85 = .ok (.dup2, 1) := by decide +kernel
theorem d_Mo_tryOf_86 : decode M_Mo_tryOf.2.1 86 = .ok (.iaload, 1) := by decide +kernel
theorem d_Mo_tryOf_87 : decode M_Mo_tryOf.2.1 87 = .ok (.iconst 1, 1) := by decide +kernel
theorem d_Mo_tryOf_88 : decode M_Mo_tryOf.2.1 88 = .ok (.iadd, 1) := by decide +kernel
theorem d_Mo_tryOf_89 : decode M_Mo_tryOf.2.1 89 = .ok (.iastore, 1) := by decide +kernel
theorem d_Mo_tryOf_90 : decode M_Mo_tryOf.2.1 90 = .ok (.iinc 2 1, 3) := by decide +kernel
theorem d_Mo_tryOf_93 : decode M_Mo_tryOf.2.1 93 = .ok (.goto (-47), 3) := by decide +kernel
theorem d_Mo_tryOf_96 : decode M_Mo_tryOf.2.1 96 = .ok (.iinc 1 1, 3) := by decide +kernel
theorem d_Mo_tryOf_99 : decode M_Mo_tryOf.2.1 99 = .ok (.goto (-76), 3) := by decide +kernel
theorem d_Mo_tryOf_102 : decode M_Mo_tryOf.2.1 102 = .ok (.bipush (-2), 2) := by decide +kernel
theorem d_Mo_tryOf_104 : decode M_Mo_tryOf.2.1 104 = .ok (.istore_n 1, 1) := by decide +kernel
theorem d_Mo_tryOf_105 : decode M_Mo_tryOf.2.1 105 = .ok (.aload_n 0, 1) := by decide +kernel
theorem d_Mo_tryOf_106 : decode M_Mo_tryOf.2.1 106 = .ok (.bipush (-2), 2) := by decide +kernel
theorem d_Mo_tryOf_108 : decode M_Mo_tryOf.2.1 108 = .ok (.putfield 358, 3) := by decide +kernel
theorem d_Mo_tryOf_111 : decode M_Mo_tryOf.2.1 111 = .ok (.iconst 0, 1) := by decide +kernel
theorem d_Mo_tryOf_112 : decode M_Mo_tryOf.2.1 112 = .ok (.istore_n 2, 1) := by decide +kernel
theorem d_Mo_tryOf_113 : decode M_Mo_tryOf.2.1 113 = .ok (.iload_n 2, 1) := by decide +kernel
theorem d_Mo_tryOf_114 : decode M_Mo_tryOf.2.1 114 = .ok (.iconst 2, 1) := by decide +kernel
theorem d_Mo_tryOf_115 : decode M_Mo_tryOf.2.1 115 = .ok (.aload_n 0, 1) := by decide +kernel
theorem d_Mo_tryOf_116 : decode M_Mo_tryOf.2.1 116 = .ok (.getfield 20, 3) := by decide +kernel
theorem d_Mo_tryOf_119 : decode M_Mo_tryOf.2.1 119 = .ok (.iconst 2, 1) := by decide +kernel
theorem d_Mo_tryOf_120 : decode M_Mo_tryOf.2.1 120 = .ok (.iaload, 1) := by decide +kernel
theorem d_Mo_tryOf_121 : decode M_Mo_tryOf.2.1 121 = .ok (.imul, 1) := by decide +kernel
theorem d_Mo_tryOf_122 : decode M_Mo_tryOf.2.1 122 = .ok (.if_icmp .ge 83, 3) := by decide +kernel
theorem d_Mo_tryOf_125 : decode M_Mo_tryOf.2.1 125 = .ok (.iconst 0, 1) := by decide +kernel
theorem d_Mo_tryOf_126 : decode M_Mo_tryOf.2.1 126 = .ok (.istore_n 3, 1) := by decide +kernel
theorem d_Mo_tryOf_127 : decode M_Mo_tryOf.2.1 127 = .ok (.iconst 0, 1) := by decide +kernel
theorem d_Mo_tryOf_128 : decode M_Mo_tryOf.2.1 128 = .ok (.istore 4, 2) := by decide +kernel
theorem d_Mo_tryOf_130 : decode M_Mo_tryOf.2.1 130 = .ok (.iload 4, 2) := by decide +kernel
theorem d_Mo_tryOf_132 : decode M_Mo_tryOf.2.1 132 = .ok (.iconst 3, 1) := by decide +kernel
theorem d_Mo_tryOf_133 : decode M_Mo_tryOf.2.1 133 = .ok (.if_icmp .ge 40, 3) := by decide +kernel
theorem d_Mo_tryOf_136 : decode M_Mo_tryOf.2.1 136 = .ok (.aload_n 0, 1) := by decide +kernel
theorem d_Mo_tryOf_137 : decode M_Mo_tryOf.2.1 137 = .ok (.getfield 50, 3) := by decide +kernel
theorem d_Mo_tryOf_140 : decode M_Mo_tryOf.2.1 140 = .ok (.iconst 3, 1) := by decide +kernel
theorem d_Mo_tryOf_141 : decode M_Mo_tryOf.2.1 141 = .ok (.iload_n 2, 1) := by decide +kernel
theorem d_Mo_tryOf_142 : decode M_Mo_tryOf.2.1 142 = .ok (.imul, 1) := by decide +kernel
theorem d_Mo_tryOf_143 : decode M_Mo_tryOf.2.1 143 = .ok (.iload 4, 2) := by decide +kernel
theorem d_Mo_tryOf_145 : decode M_Mo_tryOf.2.1 145 = .ok (.iadd, 1) := by decide +kernel
theorem d_Mo_tryOf_146 : decode M_Mo_tryOf.2.1 146 = .ok (.iaload, 1) := by decide +kernel
theorem d_Mo_tryOf_147 : decode M_Mo_tryOf.2.1 147 = .ok (.iload_n 3, 1) := by decide +kernel
theorem d_Mo_tryOf_148 : decode M_Mo_tryOf.2.1 148 = .ok (.if_icmp .le 17, 3) := by decide +kernel
theorem d_Mo_tryOf_151 : decode M_Mo_tryOf.2.1 151 = .ok (.aload_n 0, 1) := by decide +kernel
theorem d_Mo_tryOf_152 : decode M_Mo_tryOf.2.1 152 = .ok (.getfield 50, 3) := by decide +kernel
theorem d_Mo_tryOf_155 : decode M_Mo_tryOf.2.1 155 = .ok (.iconst 3, 1) := by decide +kernel
theorem d_Mo_tryOf_156 : decode M_Mo_tryOf.2.1 156 = .ok (.iload_n 2, 1) := by decide +kernel
theorem d_Mo_tryOf_157 : decode M_Mo_tryOf.2.1 157 = .ok (.imul, 1) := by decide +kernel
theorem d_Mo_tryOf_158 : decode M_Mo_tryOf.2.1 158 = .ok (.iload 4, 2) := by decide +kernel
theorem d_Mo_tryOf_160 : decode M_Mo_tryOf.2.1 160 = .ok (.iadd, 1) := by decide +kernel
theorem d_Mo_tryOf_161 : decode M_Mo_tryOf.2.1 161 = .ok (.iaload, 1) := by decide +kernel
theorem d_Mo_tryOf_162 : decode M_Mo_tryOf.2.1 162 = .ok (.goto 4, 3) := by decide +kernel
theorem d_Mo_tryOf_165 : decode M_Mo_tryOf.2.1 165 = .ok (.iload_n 3, 1) := by decide +kernel
theorem d_Mo_tryOf_166 : decode M_Mo_tryOf.2.1 166 = .ok (.istore_n 3, 1) := by decide +kernel
theorem d_Mo_tryOf_167 : decode M_Mo_tryOf.2.1 167 = .ok (.iinc 4 1, 3) := by decide +kernel
theorem d_Mo_tryOf_170 : decode M_Mo_tryOf.2.1 170 = .ok (.goto (-40), 3) := by decide +kernel
theorem d_Mo_tryOf_173 : decode M_Mo_tryOf.2.1 173 = .ok (.iload_n 3, 1) := by decide +kernel
theorem d_Mo_tryOf_174 : decode M_Mo_tryOf.2.1 174 = .ok (.ifCond .eq 25, 3) := by decide +kernel
theorem d_Mo_tryOf_177 : decode M_Mo_tryOf.2.1 177 = .ok (.iload_n 1, 1) := by decide +kernel
theorem d_Mo_tryOf_178 : decode M_Mo_tryOf.2.1 178 = .ok (.ifCond .lt 14, 3) := by decide +kernel
theorem d_Mo_tryOf_181 : decode M_Mo_tryOf.2.1 181 = .ok (.iload_n 3, 1) := by decide +kernel
theorem d_Mo_tryOf_182 : decode M_Mo_tryOf.2.1 182 = .ok (.aload_n 0, 1) := by decide +kernel
theorem d_Mo_tryOf_183 : decode M_Mo_tryOf.2.1 183 = .ok (.getfield 358, 3) := by decide +kernel
theorem d_Mo_tryOf_186 : decode M_Mo_tryOf.2.1 186 = .ok (.if_icmp .lt 6, 3) := by decide +kernel
theorem d_Mo_tryOf_189 : decode M_Mo_tryOf.2.1 189 = .ok (.goto 10, 3) := by decide +kernel
theorem d_Mo_tryOf_192 : decode M_Mo_tryOf.2.1 192 = .ok (.iload_n 2, 1) := by decide +kernel
theorem d_Mo_tryOf_193 : decode M_Mo_tryOf.2.1 193 = .ok (.istore_n 1, 1) := by decide +kernel
theorem d_Mo_tryOf_194 : decode M_Mo_tryOf.2.1 194 = .ok (.aload_n 0, 1) := by decide +kernel
theorem d_Mo_tryOf_195 : decode M_Mo_tryOf.2.1 195 = .ok (.iload_n 3, 1) := by decide +kernel
theorem d_Mo_tryOf_196 : decode M_Mo_tryOf.2.1 196 = .ok (.putfield 358, 3) := by decide +kernel
theorem d_Mo_tryOf_199 : decode M_Mo_tryOf.2.1 199 = .ok (.iinc 2 1, 3) := by decide +kernel
theorem d_Mo_tryOf_202 : decode M_Mo_tryOf.2.1 202 = .ok (.goto (-89), 3) := by decide +kernel
theorem d_Mo_tryOf_205 : decode M_Mo_tryOf.2.1 205 = .ok (.iload_n 1, 1) := by decide +kernel
theorem d_Mo_tryOf_206 : decode M_Mo_tryOf.2.1 206 = .ok (.ireturn, 1) := by decide +kernel
theorem d_Mo_tryLetter_0 : decode M_Mo_tryLetter.2.1 0 = .ok (.aload_n 0, 1) := by decide +kernel
theorem d_Mo_tryLetter_1 : decode M_Mo_tryLetter.2.1 1 = .ok (.invokevirtual 154, 3) := by decide +kernel
theorem d_Mo_tryLetter_4 : decode M_Mo_tryLetter.2.1 4 = .ok (.aload_n 0, 1) := by decide +kernel
theorem d_Mo_tryLetter_5 : decode M_Mo_tryLetter.2.1 5 = .ok (.getfield 167, 3) := by decide +kernel
theorem d_Mo_tryLetter_8 : decode M_Mo_tryLetter.2.1 8 = .ok (.ifCond .eq 10, 3) := by decide +kernel
theorem d_Mo_tryLetter_11 : decode M_Mo_tryLetter.2.1 11 = .ok (.aload_n 0, 1) := by decide +kernel
theorem d_Mo_tryLetter_12 : decode M_Mo_tryLetter.2.1 12 = .ok (.invokevirtual 361, 3) := by decide +kernel
theorem d_Mo_tryLetter_15 : decode M_Mo_tryLetter.2.1 15 = .ok (.goto 8, 3) := by decide +kernel
theorem d_Mo_tryLetter_18 : decode M_Mo_tryLetter.2.1 18 = .ok (.aload_n 0, 1) := by decide +kernel
theorem d_Mo_tryLetter_19 : decode M_Mo_tryLetter.2.1 19 = .ok (.iconst 1, 1) := by decide +kernel
theorem d_Mo_tryLetter_20 : decode M_Mo_tryLetter.2.1 20 = .ok (.invokevirtual 157, 3) := by decide +kernel
theorem d_Mo_tryLetter_23 : decode M_Mo_tryLetter.2.1 23 = .ok (.ireturn, 1) := by decide +kernel
theorem d_Mo_tryLeaves_0 : decode M_Mo_tryLeaves.2.1 0 = .ok (.aload_n 0, 1) := by decide +kernel
theorem d_Mo_tryLeaves_1 : decode M_Mo_tryLeaves.2.1 1 = .ok (.invokevirtual 154, 3) := by decide +kernel
theorem d_Mo_tryLeaves_4 : decode M_Mo_tryLeaves.2.1 4 = .ok (.aload_n 0, 1) := by decide +kernel
theorem d_Mo_tryLeaves_5 : decode M_Mo_tryLeaves.2.1 5 = .ok (.getfield 167, 3) := by decide +kernel
theorem d_Mo_tryLeaves_8 : decode M_Mo_tryLeaves.2.1 8 = .ok (.ifCond .ne 9, 3) := by decide +kernel
theorem d_Mo_tryLeaves_11 : decode M_Mo_tryLeaves.2.1 11 = .ok (.aload_n 0, 1) := by decide +kernel
theorem d_Mo_tryLeaves_12 : decode M_Mo_tryLeaves.2.1 12 = .ok (.iconst 1, 1) := by decide +kernel
theorem d_Mo_tryLeaves_13 : decode M_Mo_tryLeaves.2.1 13 = .ok (.invokevirtual 157, 3) := by decide +kernel
theorem d_Mo_tryLeaves_16 : decode M_Mo_tryLeaves.2.1 16 = .ok (.ireturn, 1) := by decide +kernel
theorem d_Mo_tryLeaves_17 : decode M_Mo_tryLeaves.2.1 17 = .ok (.aload_n 0, 1) := by decide +kernel
theorem d_Mo_tryLeaves_18 : decode M_Mo_tryLeaves.2.1 18 = .ok (.invokevirtual 361, 3) := by decide +kernel
theorem d_Mo_tryLeaves_21 : decode M_Mo_tryLeaves.2.1 21 = .ok (.pop, 1) := by decide +kernel
theorem d_Mo_tryLeaves_22 : decode M_Mo_tryLeaves.2.1 22 = .ok (.aload_n 0, 1) := by decide +kernel
theorem d_Mo_tryLeaves_23 : decode M_Mo_tryLeaves.2.1 23 = .ok (.getfield 358, 3) := by decide +kernel
theorem d_Mo_tryLeaves_26 : decode M_Mo_tryLeaves.2.1 26 = .ok (.ireturn, 1) := by decide +kernel
theorem d_Mo_judge_0 : decode M_Mo_judge.2.1 0 = .ok (.aload_n 0, 1) := by decide +kernel
theorem d_Mo_judge_1 : decode M_Mo_judge.2.1 1 = .ok (.invokevirtual 154, 3) := by decide +kernel
theorem d_Mo_judge_4 : decode M_Mo_judge.2.1 4 = .ok (.aload_n 0, 1) := by decide +kernel
theorem d_Mo_judge_5 : decode M_Mo_judge.2.1 5 = .ok (.getfield 167, 3) := by decide +kernel
theorem d_Mo_judge_8 : decode M_Mo_judge.2.1 8 = .ok (.ifCond .eq 11, 3) := by decide +kernel
theorem d_Mo_judge_11 : decode M_Mo_judge.2.1 11 = .ok (.aload_n 0, 1) := by decide +kernel
theorem d_Mo_judge_12 : decode M_Mo_judge.2.1 12 = .ok (.iconst (-1), 1) := by decide +kernel
theorem d_Mo_judge_13 : decode M_Mo_judge.2.1 13 = .ok (.invokevirtual 352, 3) := by decide +kernel
theorem d_Mo_judge_16 : decode M_Mo_judge.2.1 16 = .ok (.goto 8, 3) := by decide +kernel
theorem d_Mo_judge_19 : decode M_Mo_judge.2.1 19 = .ok (.aload_n 0, 1) := by decide +kernel
theorem d_Mo_judge_20 : decode M_Mo_judge.2.1 20 = .ok (.iconst 1, 1) := by decide +kernel
theorem d_Mo_judge_21 : decode M_Mo_judge.2.1 21 = .ok (.invokevirtual 157, 3) := by decide +kernel
theorem d_Mo_judge_24 : decode M_Mo_judge.2.1 24 = .ok (.ireturn, 1) := by decide +kernel
theorem d_Mo_votesOf_0 : decode M_Mo_votesOf.2.1 0 = .ok (.iconst 0, 1) := by decide +kernel
theorem d_Mo_votesOf_1 : decode M_Mo_votesOf.2.1 1 = .ok (.istore_n 2, 1) := by decide +kernel
theorem d_Mo_votesOf_2 : decode M_Mo_votesOf.2.1 2 = .ok (.iconst 0, 1) := by decide +kernel
theorem d_Mo_votesOf_3 : decode M_Mo_votesOf.2.1 3 = .ok (.istore_n 3, 1) := by decide +kernel
theorem d_Mo_votesOf_4 : decode M_Mo_votesOf.2.1 4 = .ok (.iload_n 3, 1) := by decide +kernel
theorem d_Mo_votesOf_5 : decode M_Mo_votesOf.2.1 5 = .ok (.aload_n 0, 1) := by decide +kernel
theorem d_Mo_votesOf_6 : decode M_Mo_votesOf.2.1 6 = .ok (.getfield 20, 3) := by decide +kernel
theorem d_Mo_votesOf_9 : decode M_Mo_votesOf.2.1 9 = .ok (.iconst 3, 1) := by decide +kernel
theorem d_Mo_votesOf_10 : decode M_Mo_votesOf.2.1 10 = .ok (.iaload, 1) := by decide +kernel
theorem d_Mo_votesOf_11 : decode M_Mo_votesOf.2.1 11 = .ok (.if_icmp .ge 37, 3) := by decide +kernel
theorem d_Mo_votesOf_14 : decode M_Mo_votesOf.2.1 14 = .ok (.iload_n 2, 1) := by decide +kernel
theorem d_Mo_votesOf_15 : decode M_Mo_votesOf.2.1 15 = .ok (.iload_n 1, 1) := by decide +kernel
theorem d_Mo_votesOf_16 : decode M_Mo_votesOf.2.1 16 = .ok (.iload_n 3, 1) := by decide +kernel
theorem d_Mo_votesOf_17 : decode M_Mo_votesOf.2.1 17 = .ok (.invokestatic 231, 3) := by decide +kernel
theorem d_Mo_votesOf_20 : decode M_Mo_votesOf.2.1 20 = .ok (.ifCond .eq 19, 3) := by decide +kernel
theorem d_Mo_votesOf_23 : decode M_Mo_votesOf.2.1 23 = .ok (.aload_n 0, 1) := by decide +kernel
theorem d_Mo_votesOf_24 : decode M_Mo_votesOf.2.1 24 = .ok (.getfield 20, 3) := by decide +kernel
theorem d_Mo_votesOf_27 : decode M_Mo_votesOf.2.1 27 = .ok (.bipush 19, 2) := by decide +kernel
theorem d_Mo_votesOf_29 : decode M_Mo_votesOf.2.1 29 = .ok (.iconst 2, 1) := by decide +kernel
theorem d_Mo_votesOf_30 : decode M_Mo_votesOf.2.1 30 = .ok (.iload_n 3, 1) := by decide +kernel
theorem d_Mo_votesOf_31 : decode M_Mo_votesOf.2.1 31 = .ok (.imul, 1) := by decide +kernel
theorem d_Mo_votesOf_32 : decode M_Mo_votesOf.2.1 32 = .ok (.iadd, 1) := by decide +kernel
theorem d_Mo_votesOf_33 : decode M_Mo_votesOf.2.1 33 = .ok (.iconst 1, 1) := by decide +kernel
theorem d_Mo_votesOf_34 : decode M_Mo_votesOf.2.1 34 = .ok (.iadd, 1) := by decide +kernel
theorem d_Mo_votesOf_35 : decode M_Mo_votesOf.2.1 35 = .ok (.iaload, 1) := by decide +kernel
theorem d_Mo_votesOf_36 : decode M_Mo_votesOf.2.1 36 = .ok (.goto 4, 3) := by decide +kernel
theorem d_Mo_votesOf_39 : decode M_Mo_votesOf.2.1 39 = .ok (.iconst 0, 1) := by decide +kernel
theorem d_Mo_votesOf_40 : decode M_Mo_votesOf.2.1 40 = .ok (.iadd, 1) := by decide +kernel
theorem d_Mo_votesOf_41 : decode M_Mo_votesOf.2.1 41 = .ok (.istore_n 2, 1) := by decide +kernel
theorem d_Mo_votesOf_42 : decode M_Mo_votesOf.2.1 42 = .ok (.iinc 3 1, 3) := by decide +kernel
theorem d_Mo_votesOf_45 : decode M_Mo_votesOf.2.1 45 = .ok (.goto (-41), 3) := by decide +kernel
theorem d_Mo_votesOf_48 : decode M_Mo_votesOf.2.1 48 = .ok (.iload_n 2, 1) := by decide +kernel
theorem d_Mo_votesOf_49 : decode M_Mo_votesOf.2.1 49 = .ok (.ireturn, 1) := by decide +kernel
theorem d_Mo_allEstates_0 : decode M_Mo_allEstates.2.1 0 = .ok (.iconst 1, 1) := by decide +kernel
theorem d_Mo_allEstates_1 : decode M_Mo_allEstates.2.1 1 = .ok (.aload_n 0, 1) := by decide +kernel
theorem d_Mo_allEstates_2 : decode M_Mo_allEstates.2.1 2 = .ok (.getfield 20, 3) := by decide +kernel
theorem d_Mo_allEstates_5 : decode M_Mo_allEstates.2.1 5 = .ok (.iconst 3, 1) := by decide +kernel
theorem d_Mo_allEstates_6 : decode M_Mo_allEstates.2.1 6 = .ok (.iaload, 1) := by decide +kernel
theorem d_Mo_allEstates_7 : decode M_Mo_allEstates.2.1 7 = .ok (.ishl, 1) := by decide +kernel
theorem d_Mo_allEstates_8 : decode M_Mo_allEstates.2.1 8 = .ok (.iconst 1, 1) := by decide +kernel
theorem d_Mo_allEstates_9 : decode M_Mo_allEstates.2.1 9 = .ok (.isub, 1) := by decide +kernel
theorem d_Mo_allEstates_10 : decode M_Mo_allEstates.2.1 10 = .ok (.ireturn, 1) := by decide +kernel
theorem d_Mo_power_0 : decode M_Mo_power.2.1 0 = .ok (.aload_n 0, 1) := by decide +kernel
theorem d_Mo_power_1 : decode M_Mo_power.2.1 1 = .ok (.invokevirtual 154, 3) := by decide +kernel
theorem d_Mo_power_4 : decode M_Mo_power.2.1 4 = .ok (.aload_n 0, 1) := by decide +kernel
theorem d_Mo_power_5 : decode M_Mo_power.2.1 5 = .ok (.iload_n 1, 1) := by decide +kernel
theorem d_Mo_power_6 : decode M_Mo_power.2.1 6 = .ok (.invokevirtual 278, 3) := by decide +kernel
theorem d_Mo_power_9 : decode M_Mo_power.2.1 9 = .ok (.ifCond .ne 10, 3) := by decide +kernel
theorem d_Mo_power_12 : decode M_Mo_power.2.1 12 = .ok (.aload_n 0, 1) := by decide +kernel
theorem d_Mo_power_13 : decode M_Mo_power.2.1 13 = .ok (.iconst 1, 1) := by decide +kernel
theorem d_Mo_power_14 : decode M_Mo_power.2.1 14 = .ok (.invokevirtual 157, 3) := by decide +kernel
theorem d_Mo_power_17 : decode M_Mo_power.2.1 17 = .ok (.i2l, 1) := by decide +kernel
theorem d_Mo_power_18 : decode M_Mo_power.2.1 18 = .ok (.lreturn, 1) := by decide +kernel
theorem d_Mo_power_19 : decode M_Mo_power.2.1 19 = .ok (.aload_n 0, 1) := by decide +kernel
theorem d_Mo_power_20 : decode M_Mo_power.2.1 20 = .ok (.aload_n 0, 1) := by decide +kernel
theorem d_Mo_power_21 : decode M_Mo_power.2.1 21 = .ok (.invokevirtual 364, 3) := by decide +kernel
theorem d_Mo_power_24 : decode M_Mo_power.2.1 24 = .ok (.invokevirtual 367, 3) := by decide +kernel
theorem d_Mo_power_27 : decode M_Mo_power.2.1 27 = .ok (.istore_n 3, 1) := by decide +kernel
theorem d_Mo_power_28 : decode M_Mo_power.2.1 28 = .ok (.iconst 0, 1) := by decide +kernel
theorem d_Mo_power_29 : decode M_Mo_power.2.1 29 = .ok (.istore 4, 2) := by decide +kernel
theorem d_Mo_power_31 : decode M_Mo_power.2.1 31 = .ok (.iconst 0, 1) := by decide +kernel
theorem d_Mo_power_32 : decode M_Mo_power.2.1 32 = .ok (.istore 5, 2) := by decide +kernel
theorem d_Mo_power_34 : decode M_Mo_power.2.1 34 = .ok (.iconst 0, 1) := by decide +kernel
theorem d_Mo_power_35 : decode M_Mo_power.2.1 35 = .ok (.istore 6, 2) := by decide +kernel
theorem d_Mo_power_37 : decode M_Mo_power.2.1 37 = .ok (.iload 6, 2) := by decide +kernel
theorem d_Mo_power_39 : decode M_Mo_power.2.1 39 = .ok (.aload_n 0, 1) := by decide +kernel
theorem d_Mo_power_40 : decode M_Mo_power.2.1 40 = .ok (.invokevirtual 364, 3) := by decide +kernel
theorem d_Mo_power_43 : decode M_Mo_power.2.1 43 = .ok (.if_icmp .gt 62, 3) := by decide +kernel
theorem d_Mo_power_46 : decode M_Mo_power.2.1 46 = .ok (.iload 6, 2) := by decide +kernel
theorem d_Mo_power_48 : decode M_Mo_power.2.1 48 = .ok (.iload_n 1, 1) := by decide +kernel
theorem d_Mo_power_49 : decode M_Mo_power.2.1 49 = .ok (.invokestatic 231, 3) := by decide +kernel
theorem d_Mo_power_52 : decode M_Mo_power.2.1 52 = .ok (.ifCond .eq 6, 3) := by decide +kernel
theorem d_Mo_power_55 : decode M_Mo_power.2.1 55 = .ok (.goto 44, 3) := by decide +kernel
theorem d_Mo_power_58 : decode M_Mo_power.2.1 58 = .ok (.iinc 4 1, 3) := by decide +kernel
theorem d_Mo_power_61 : decode M_Mo_power.2.1 61 = .ok (.iload 5, 2) := by decide +kernel
theorem d_Mo_power_63 : decode M_Mo_power.2.1 63 = .ok (.iconst 2, 1) := by decide +kernel
theorem d_Mo_power_64 : decode M_Mo_power.2.1 64 = .ok (.aload_n 0, 1) := by decide +kernel
theorem d_Mo_power_65 : decode M_Mo_power.2.1 65 = .ok (.iload 6, 2) := by decide +kernel
theorem d_Mo_power_67 : decode M_Mo_power.2.1 67 = .ok (.invokevirtual 367, 3) := by decide +kernel
theorem d_Mo_power_70 : decode M_Mo_power.2.1 70 = .ok (.imul, 1) := by decide +kernel
theorem d_Mo_power_71 : decode M_Mo_power.2.1 71 = .ok (.iload_n 3, 1) := by decide +kernel
theorem d_Mo_power_72 : decode M_Mo_power.2.1 72 = .ok (.if_icmp .gt 23, 3) := by decide +kernel
theorem d_Mo_power_75 : decode M_Mo_power.2.1 75 = .ok (.iconst 2, 1) := by decide +kernel
theorem d_Mo_power_76 : decode M_Mo_power.2.1 76 = .ok (.aload_n 0, 1) := by decide +kernel
theorem d_Mo_power_77 : decode M_Mo_power.2.1 77 = .ok (.iload 6, 2) := by decide +kernel
theorem d_Mo_power_79 : decode M_Mo_power.2.1 79 = .ok (.iconst 1, 1) := by decide +kernel
theorem d_Mo_power_80 : decode M_Mo_power.2.1 80 = .ok (.iload_n 1, 1) := by decide +kernel
theorem d_Mo_power_81 : decode M_Mo_power.2.1 81 = .ok (.ishl, 1) := by decide +kernel
theorem d_Mo_power_82 : decode M_Mo_power.2.1 82 = .ok (.ior, 1) := by decide +kernel
theorem d_Mo_power_83 : decode M_Mo_power.2.1 83 = .ok (.invokevirtual 367, 3) := by decide +kernel
theorem d_Mo_power_86 : decode M_Mo_power.2.1 86 = .ok (.imul, 1) := by decide +kernel
theorem d_Mo_power_87 : decode M_Mo_power.2.1 87 = .ok (.iload_n 3, 1) := by decide +kernel
theorem d_Mo_power_88 : decode M_Mo_power.2.1 88 = .ok (.if_icmp .le 7, 3) := by decide +kernel
theorem d_Mo_power_91 : decode M_Mo_power.2.1 91 = .ok (.iconst 1, 1) := by decide +kernel
theorem d_Mo_power_92 : decode M_Mo_power.2.1 92 = .ok (.goto 4, 3) := by decide +kernel
theorem d_Mo_power_95 : decode M_Mo_power.2.1 95 = .ok (.iconst 0, 1) := by decide +kernel
theorem d_Mo_power_96 : decode M_Mo_power.2.1 96 = .ok (.iadd, 1) := by decide +kernel
theorem d_Mo_power_97 : decode M_Mo_power.2.1 97 = .ok (.istore 5, 2) := by decide +kernel
theorem d_Mo_power_99 : decode M_Mo_power.2.1 99 = .ok (.iinc 6 1, 3) := by decide +kernel
theorem d_Mo_power_102 : decode M_Mo_power.2.1 102 = .ok (.goto (-65), 3) := by decide +kernel
theorem d_Mo_power_105 : decode M_Mo_power.2.1 105 = .ok (.iload 5, 2) := by decide +kernel
theorem d_Mo_power_107 : decode M_Mo_power.2.1 107 = .ok (.i2l, 1) := by decide +kernel
theorem d_Mo_power_108 : decode M_Mo_power.2.1 108 = .ok (.iload 4, 2) := by decide +kernel
theorem d_Mo_power_110 : decode M_Mo_power.2.1 110 = .ok (.i2l, 1) := by decide +kernel
theorem d_Mo_power_111 : decode M_Mo_power.2.1 111 = .ok (.iload_n 2, 1) := by decide +kernel
theorem d_Mo_power_112 : decode M_Mo_power.2.1 112 = .ok (.invokestatic 370, 3) := by decide +kernel
theorem d_Mo_power_115 : decode M_Mo_power.2.1 115 = .ok (.lreturn, 1) := by decide +kernel
theorem d_Mo_rule_0 : decode M_Mo_rule.2.1 0 = .ok (.aload_n 0, 1) := by decide +kernel
theorem d_Mo_rule_1 : decode M_Mo_rule.2.1 1 = .ok (.invokevirtual 154, 3) := by decide +kernel
theorem d_Mo_rule_4 : decode M_Mo_rule.2.1 4 = .ok (.aload_n 0, 1) := by decide +kernel
theorem d_Mo_rule_5 : decode M_Mo_rule.2.1 5 = .ok (.getfield 167, 3) := by decide +kernel
theorem d_Mo_rule_8 : decode M_Mo_rule.2.1 8 = .ok (.ifCond .ne 9, 3) := by decide +kernel
theorem d_Mo_rule_11 : decode M_Mo_rule.2.1 11 = .ok (.aload_n 0, 1) := by decide +kernel
theorem d_Mo_rule_12 : decode M_Mo_rule.2.1 12 = .ok (.iconst 1, 1) := by decide +kernel
theorem d_Mo_rule_13 : decode M_Mo_rule.2.1 13 = .ok (.invokevirtual 157, 3) := by decide +kernel
theorem d_Mo_rule_16 : decode M_Mo_rule.2.1 16 = .ok (.ireturn, 1) := by decide +kernel
theorem d_Mo_rule_17 : decode M_Mo_rule.2.1 17 = .ok (.bipush (-2), 2) := by decide +kernel
theorem d_Mo_rule_19 : decode M_Mo_rule.2.1 19 = .ok (.istore_n 1, 1) := by decide +kernel
theorem d_Mo_rule_20 : decode M_Mo_rule.2.1 20 = .ok (.iconst 0, 1) := by decide +kernel
theorem d_Mo_rule_21 : decode M_Mo_rule.2.1 21 = .ok (.istore_n 2, 1) := by decide +kernel
theorem d_Mo_rule_22 : decode M_Mo_rule.2.1 22 = .ok (.iload_n 2, 1) := by decide +kernel
theorem d_Mo_rule_23 : decode M_Mo_rule.2.1 23 = .ok (.aload_n 0, 1) := by decide +kernel
theorem d_Mo_rule_24 : decode M_Mo_rule.2.1 24 = .ok (.invokevirtual 364, 3) := by decide +kernel
theorem d_Mo_rule_27 : decode M_Mo_rule.2.1 27 = .ok (.if_icmp .gt 44, 3) := by decide +kernel
theorem d_Mo_rule_30 : decode M_Mo_rule.2.1 30 = .ok (.iconst 2, 1) := by decide +kernel
theorem d_Mo_rule_31 : decode M_Mo_rule.2.1 31 = .ok (.aload_n 0, 1) := by decide +kernel
theorem d_Mo_rule_32 : decode M_Mo_rule.2.1 32 = .ok (.iload_n 2, 1) := by decide +kernel
theorem d_Mo_rule_33 : decode M_Mo_rule.2.1 33 = .ok (.invokevirtual 367, 3) := by decide +kernel
theorem d_Mo_rule_36 : decode M_Mo_rule.2.1 36 = .ok (.imul, 1) := by decide +kernel
theorem d_Mo_rule_37 : decode M_Mo_rule.2.1 37 = .ok (.aload_n 0, 1) := by decide +kernel
theorem d_Mo_rule_38 : decode M_Mo_rule.2.1 38 = .ok (.aload_n 0, 1) := by decide +kernel
theorem d_Mo_rule_39 : decode M_Mo_rule.2.1 39 = .ok (.invokevirtual 364, 3) := by decide +kernel
theorem d_Mo_rule_42 : decode M_Mo_rule.2.1 42 = .ok (.invokevirtual 367, 3) := by decide +kernel
theorem d_Mo_rule_45 : decode M_Mo_rule.2.1 45 = .ok (.if_icmp .le 20, 3) := by decide +kernel
theorem d_Mo_rule_48 : decode M_Mo_rule.2.1 48 = .ok (.iload_n 1, 1) := by decide +kernel
theorem d_Mo_rule_49 : decode M_Mo_rule.2.1 49 = .ok (.ifCond .lt 14, 3) := by decide +kernel
theorem d_Mo_rule_52 : decode M_Mo_rule.2.1 52 = .ok (.iload_n 2, 1) := by decide +kernel
theorem d_Mo_rule_53 : decode M_Mo_rule.2.1 53 = .ok (.invokestatic 307, 3) := by decide +kernel
theorem d_Mo_rule_56 : decode M_Mo_rule.2.1 56 = .ok (.iload_n 1, 1) := by decide +kernel
theorem d_Mo_rule_57 : decode M_Mo_rule.2.1 57 = .ok (.invokestatic 307, 3) := by decide +kernel
theorem d_Mo_rule_60 : decode M_Mo_rule.2.1 60 = .ok (.if_icmp .ge 5, 3) := by decide +kernel
theorem d_Mo_rule_63 : decode M_Mo_rule.2.1 63 = .ok (.iload_n 2, 1) := by decide +kernel
theorem d_Mo_rule_64 : decode M_Mo_rule.2.1 64 = .ok (.istore_n 1, 1) := by decide +kernel
theorem d_Mo_rule_65 : decode M_Mo_rule.2.1 65 = .ok (.iinc 2 1, 3) := by decide +kernel
theorem d_Mo_rule_68 : decode M_Mo_rule.2.1 68 = .ok (.goto (-46), 3) := by decide +kernel
theorem d_Mo_rule_71 : decode M_Mo_rule.2.1 71 = .ok (.iload_n 1, 1) := by decide +kernel
theorem d_Mo_rule_72 : decode M_Mo_rule.2.1 72 = .ok (.ireturn, 1) := by decide +kernel
theorem d_Mo_suesOf_0 : decode M_Mo_suesOf.2.1 0 = .ok (.iload_n 1, 1) := by decide +kernel
theorem d_Mo_suesOf_1 : decode M_Mo_suesOf.2.1 1 = .ok (.ifCond .eq 17, 3) := by decide +kernel
theorem d_Mo_suesOf_4 : decode M_Mo_suesOf.2.1 4 = .ok (.iload_n 2, 1) := by decide +kernel
theorem d_Mo_suesOf_5 : decode M_Mo_suesOf.2.1 5 = .ok (.ifCond .eq 9, 3) := by decide +kernel
theorem d_Mo_suesOf_8 : decode M_Mo_suesOf.2.1 8 = .ok (.iconst 1, 1) := by decide +kernel
theorem d_Mo_suesOf_9 : decode M_Mo_suesOf.2.1 9 = .ok (.iload_n 0, 1) := by decide +kernel
theorem d_Mo_suesOf_10 : decode M_Mo_suesOf.2.1 10 = .ok (.isub, 1) := by decide +kernel
theorem d_Mo_suesOf_11 : decode M_Mo_suesOf.2.1 11 = .ok (.goto 17, 3) := by decide +kernel
theorem d_Mo_suesOf_14 : decode M_Mo_suesOf.2.1 14 = .ok (.iconst 3, 1) := by decide +kernel
theorem d_Mo_suesOf_15 : decode M_Mo_suesOf.2.1 15 = .ok (.goto 13, 3) := by decide +kernel
theorem d_Mo_suesOf_18 : decode M_Mo_suesOf.2.1 18 = .ok (.iload_n 2, 1) := by decide +kernel
theorem d_Mo_suesOf_19 : decode M_Mo_suesOf.2.1 19 = .ok (.ifCond .eq 8, 3) := by decide +kernel
theorem d_Mo_suesOf_22 : decode M_Mo_suesOf.2.1 22 = .ok (.iload_n 0, 1) := by decide +kernel
theorem d_Mo_suesOf_23 : decode M_Mo_suesOf.2.1 23 = .ok (.ineg, 1) := by decide +kernel
theorem d_Mo_suesOf_24 : decode M_Mo_suesOf.2.1 24 = .ok (.goto 4, 3) := by decide +kernel
theorem d_Mo_suesOf_27 : decode M_Mo_suesOf.2.1 27 = .ok (.iconst 2, 1) := by decide +kernel
theorem d_Mo_suesOf_28 : decode M_Mo_suesOf.2.1 28 = .ok (.ireturn, 1) := by decide +kernel
theorem d_Mo_sues_0 : decode M_Mo_sues.2.1 0 = .ok (.aload_n 0, 1) := by decide +kernel
theorem d_Mo_sues_1 : decode M_Mo_sues.2.1 1 = .ok (.invokevirtual 154, 3) := by decide +kernel
theorem d_Mo_sues_4 : decode M_Mo_sues.2.1 4 = .ok (.aload_n 0, 1) := by decide +kernel
theorem d_Mo_sues_5 : decode M_Mo_sues.2.1 5 = .ok (.aload_n 0, 1) := by decide +kernel
theorem d_Mo_sues_6 : decode M_Mo_sues.2.1 6 = .ok (.getfield 167, 3) := by decide +kernel
theorem d_Mo_sues_9 : decode M_Mo_sues.2.1 9 = .ok (.iload_n 1, 1) := by decide +kernel
theorem d_Mo_sues_10 : decode M_Mo_sues.2.1 10 = .ok (.iconst 0, 1) := by decide +kernel
theorem d_Mo_sues_11 : decode M_Mo_sues.2.1 11 = .ok (.bipush 9, 2) := by decide +kernel
theorem d_Mo_sues_13 : decode M_Mo_sues.2.1 13 = .ok (.invokestatic 142, 3) := by decide +kernel
theorem d_Mo_sues_16 : decode M_Mo_sues.2.1 16 = .ok (.invokevirtual 323, 3) := by decide +kernel
theorem d_Mo_sues_19 : decode M_Mo_sues.2.1 19 = .ok (.istore 5, 2) := by decide +kernel
theorem d_Mo_sues_21 : decode M_Mo_sues.2.1 21 = .ok (.iload 5, 2) := by decide +kernel
theorem d_Mo_sues_23 : decode M_Mo_sues.2.1 23 = .ok (.ifCond .ne 24, 3) := by decide +kernel
theorem d_Mo_sues_26 : decode M_Mo_sues.2.1 26 = .ok (.iload 4, 2) := by decide +kernel
theorem d_Mo_sues_28 : decode M_Mo_sues.2.1 28 = .ok (.ifCond .eq 12, 3) := by decide +kernel
theorem d_Mo_sues_31 : decode M_Mo_sues.2.1 31 = .ok (.iload_n 1, 1) := by decide +kernel
theorem d_Mo_sues_32 : decode M_Mo_sues.2.1 32 = .ok (.iload_n 3, 1) := by decide +kernel
theorem d_Mo_sues_33 : decode M_Mo_sues.2.1 33 = .ok (.iload_n 2, 1) := by decide +kernel
theorem d_Mo_sues_34 : decode M_Mo_sues.2.1 34 = .ok (.invokestatic 374, 3) := by decide +kernel
theorem d_Mo_sues_37 : decode M_Mo_sues.2.1 37 = .ok (.goto 9, 3) := by decide +kernel
theorem d_Mo_sues_40 : decode M_Mo_sues.2.1 40 = .ok (.iload_n 1, 1) := by decide +kernel
theorem d_Mo_sues_41 : decode M_Mo_sues.2.1 41 = .ok (.iload_n 2, 1) := by decide +kernel
theorem d_Mo_sues_42 : decode M_Mo_sues.2.1 42 = .ok (.iload_n 3, 1) := by decide +kernel
theorem d_Mo_sues_43 : decode M_Mo_sues.2.1 43 = .ok (.invokestatic 374, 3) := by decide +kernel
theorem d_Mo_sues_46 : decode M_Mo_sues.2.1 46 = .ok (.ireturn, 1) := by decide +kernel
theorem d_Mo_sues_47 : decode M_Mo_sues.2.1 47 = .ok (.aload_n 0, 1) := by decide +kernel
theorem d_Mo_sues_48 : decode M_Mo_sues.2.1 48 = .ok (.iload 5, 2) := by decide +kernel
theorem d_Mo_sues_50 : decode M_Mo_sues.2.1 50 = .ok (.putfield 56, 3) := by decide +kernel
theorem d_Mo_sues_53 : decode M_Mo_sues.2.1 53 = .ok (.bipush (-100), 2) := by decide +kernel
theorem d_Mo_sues_55 : decode M_Mo_sues.2.1 55 = .ok (.ireturn, 1) := by decide +kernel
theorem d_Mo_seekRests_0 : decode M_Mo_seekRests.2.1 0 = .ok (.iconst 0, 1) := by decide +kernel
theorem d_Mo_seekRests_1 : decode M_Mo_seekRests.2.1 1 = .ok (.istore_n 2, 1) := by decide +kernel
theorem d_Mo_seekRests_2 : decode M_Mo_seekRests.2.1 2 = .ok (.aload_n 0, 1) := by decide +kernel
theorem d_Mo_seekRests_3 : decode M_Mo_seekRests.2.1 3 = .ok (.bipush (-2), 2) := by decide +kernel
theorem d_Mo_seekRests_5 : decode M_Mo_seekRests.2.1 5 = .ok (.putfield 378, 3) := by decide +kernel
theorem d_Mo_seekRests_8 : decode M_Mo_seekRests.2.1 8 = .ok (.iconst 0, 1) := by decide +kernel
theorem d_Mo_seekRests_9 : decode M_Mo_seekRests.2.1 9 = .ok (.istore_n 3, 1) := by decide +kernel
theorem d_Mo_seekRests_10 : decode M_Mo_seekRests.2.1 10 = .ok (.iload_n 3, 1) := by decide +kernel
theorem d_Mo_seekRests_11 : decode M_Mo_seekRests.2.1 11 = .ok (.iconst 4, 1) := by decide +kernel
theorem d_Mo_seekRests_12 : decode M_Mo_seekRests.2.1 12 = .ok (.if_icmp .ge 113, 3) := by decide +kernel
theorem d_Mo_seekRests_15 : decode M_Mo_seekRests.2.1 15 = .ok (.iload_n 3, 1) := by decide +kernel
theorem d_Mo_seekRests_16 : decode M_Mo_seekRests.2.1 16 = .ok (.iconst 1, 1) := by decide +kernel
theorem d_Mo_seekRests_17 : decode M_Mo_seekRests.2.1 17 = .ok (.if_icmp .le 7, 3) := by decide +kernel
theorem d_Mo_seekRests_20 : decode M_Mo_seekRests.2.1 20 = .ok (.iconst 1, 1) := by decide +kernel
theorem d_Mo_seekRests_21 : decode M_Mo_seekRests.2.1 21 = .ok (.goto 4, 3) := by decide +kernel
theorem d_Mo_seekRests_24 : decode M_Mo_seekRests.2.1 24 = .ok (.iconst 0, 1) := by decide +kernel
theorem d_Mo_seekRests_25 : decode M_Mo_seekRests.2.1 25 = .ok (.istore 4, 2) := by decide +kernel
theorem d_Mo_seekRests_27 : decode M_Mo_seekRests.2.1 27 = .ok (.iload_n 3, 1) := by decide +kernel
theorem d_Mo_seekRests_28 : decode M_Mo_seekRests.2.1 28 = .ok (.iconst 2, 1) := by decide +kernel
theorem d_Mo_seekRests_29 : decode M_Mo_seekRests.2.1 29 = .ok (.irem, 1) := by decide +kernel
theorem d_Mo_seekRests_30 : decode M_Mo_seekRests.2.1 30 = .ok (.iconst 1, 1) := by decide +kernel
theorem d_Mo_seekRests_31 : decode M_Mo_seekRests.2.1 31 = .ok (.if_icmp .ne 7, 3) := by decide +kernel
theorem d_Mo_seekRests_34 : decode M_Mo_seekRests.2.1 34 = .ok (.iconst 1, 1) := by decide +kernel
theorem d_Mo_seekRests_35 : decode M_Mo_seekRests.2.1 35 = .ok (.goto 4, 3) := by decide +kernel
theorem d_Mo_seekRests_38 : decode M_Mo_seekRests.2.1 38 = .ok (.iconst 0, 1) := by decide +kernel
theorem d_Mo_seekRests_39 : decode M_Mo_seekRests.2.1 39 = .ok (.istore 5, 2) := by decide +kernel
theorem d_Mo_seekRests_41 : decode M_Mo_seekRests.2.1 41 = .ok (.iload_n 1, 1) := by decide +kernel
theorem d_Mo_seekRests_42 : decode M_Mo_seekRests.2.1 42 = .ok (.iload 4, 2) := by decide +kernel
theorem d_Mo_seekRests_44 : decode M_Mo_seekRests.2.1 44 = .ok (.ifCond .ne 7, 3) := by decide +kernel
theorem d_Mo_seekRests_47 : decode M_Mo_seekRests.2.1 47 = .ok (.iconst 1, 1) := by decide +kernel
theorem d_Mo_seekRests_48 : decode M_Mo_seekRests.2.1 48 = .ok (.goto 4, 3) := by decide +kernel
theorem d_Mo_seekRests_51 : decode M_Mo_seekRests.2.1 51 = .ok (.iconst 0, 1) := by decide +kernel
theorem d_Mo_seekRests_52 : decode M_Mo_seekRests.2.1 52 = .ok (.iload 5, 2) := by decide +kernel
theorem d_Mo_seekRests_54 : decode M_Mo_seekRests.2.1 54 = .ok (.invokestatic 374, 3) := by decide +kernel
theorem d_Mo_seekRests_57 : decode M_Mo_seekRests.2.1 57 = .ok (.iload_n 1, 1) := by decide +kernel
theorem d_Mo_seekRests_58 : decode M_Mo_seekRests.2.1 58 = .ok (.iload 4, 2) := by decide +kernel
theorem d_Mo_seekRests_60 : decode M_Mo_seekRests.2.1 60 = .ok (.iload 5, 2) := by decide +kernel
theorem d_Mo_seekRests_62 : decode M_Mo_seekRests.2.1 62 = .ok (.invokestatic 374, 3) := by decide +kernel
theorem d_Mo_seekRests_65 : decode M_Mo_seekRests.2.1 65 = .ok (.if_icmp .gt 54, 3) := by decide +kernel
theorem d_Mo_seekRests_68 : decode M_Mo_seekRests.2.1 68 = .ok (.iload_n 1, 1) := by decide +kernel
theorem d_Mo_seekRests_69 : decode M_Mo_seekRests.2.1 69 = .ok (.iload 5, 2) := by decide +kernel
theorem d_Mo_seekRests_71 : decode M_Mo_seekRests.2.1 71 = .ok (.ifCond .ne 7, 3) := by decide +kernel
theorem d_Mo_seekRests_74 : decode M_Mo_seekRests.2.1 74 = .ok (.iconst 1, 1) := by decide +kernel
theorem d_Mo_seekRests_75 : decode M_Mo_seekRests.2.1 75 = .ok (.goto 4, 3) := by decide +kernel
theorem d_Mo_seekRests_78 : decode M_Mo_seekRests.2.1 78 = .ok (.iconst 0, 1) := by decide +kernel
theorem d_Mo_seekRests_79 : decode M_Mo_seekRests.2.1 79 = .ok (.iload 4, 2) := by decide +kernel
theorem d_Mo_seekRests_81 : decode M_Mo_seekRests.2.1 81 = .ok (.invokestatic 374, 3) := by decide +kernel
theorem d_Mo_seekRests_84 : decode M_Mo_seekRests.2.1 84 = .ok (.iload_n 1, 1) := by decide +kernel
theorem d_Mo_seekRests_85 : decode M_Mo_seekRests.2.1 85 = .ok (.iload 5, 2) := by decide +kernel
theorem d_Mo_seekRests_87 : decode M_Mo_seekRests.2.1 87 = .ok (.iload 4, 2) := by decide +kernel
theorem d_Mo_seekRests_89 : decode M_Mo_seekRests.2.1 89 = .ok (.invokestatic 374, 3) := by decide +kernel
theorem d_Mo_seekRests_92 : decode M_Mo_seekRests.2.1 92 = .ok (.if_icmp .le 6, 3) := by decide +kernel
theorem d_Mo_seekRests_95 : decode M_Mo_seekRests.2.1 95 = .ok (.goto 24, 3) := by decide +kernel
theorem d_Mo_seekRests_98 : decode M_Mo_seekRests.2.1 98 = .ok (.iload_n 2, 1) := by decide +kernel
theorem d_Mo_seekRests_99 : decode M_Mo_seekRests.2.1 99 = .ok (.ifCond .ne 17, 3) := by decide +kernel
theorem d_Mo_seekRests_102 : decode M_Mo_seekRests.2.1 102 = .ok (.aload_n 0, 1) := by decide +kernel
theorem d_Mo_seekRests_103 : decode M_Mo_seekRests.2.1 103 = .ok (.bipush 10, 2) := by decide +kernel
theorem d_Mo_seekRests_105 : decode M_Mo_seekRests.2.1 105 = .ok (.iload_n 3, 1) := by decide +kernel
theorem d_Mo_seekRests_106 : decode M_Mo_seekRests.2.1 106 = .ok (.iconst 2, 1) := by decide +kernel
theorem d_Mo_seekRests_107 : decode M_Mo_seekRests.2.1 107 = .ok (.idiv, 1) := by decide +kernel
theorem d_Mo_seekRests_108 : decode M_Mo_seekRests.2.1 108 = .ok (.imul, 1) := by decide +kernel
theorem d_Mo_seekRests_109 : decode M_Mo_seekRests.2.1 109 = .ok (.iload_n 3, 1) := by decide +kernel
theorem d_Mo_seekRests_110 : decode M_Mo_seekRests.2.1 110 = .ok (.iconst 2, 1) := by decide +kernel
theorem d_Mo_seekRests_111 : decode M_Mo_seekRests.2.1 111 = .ok (.irem, 1) := by decide +kernel
theorem d_Mo_seekRests_112 : decode M_Mo_seekRests.2.1 112 = .ok (.iadd, 1) := by decide +kernel
theorem d_Mo_seekRests_113 : decode M_Mo_seekRests.2.1 113 = .ok (.putfield 378, 3) := by decide +kernel
theorem d_Mo_seekRests_116 : decode M_Mo_seekRests.2.1 116 = .ok (.iinc 2 1, 3) := by decide +kernel
theorem d_Mo_seekRests_119 : decode M_Mo_seekRests.2.1 119 = .ok (.iinc 3 1, 3) := by decide +kernel
theorem d_Mo_seekRests_122 : decode M_Mo_seekRests.2.1 122 = .ok (.goto (-112), 3) := by decide +kernel
theorem d_Mo_seekRests_125 : decode M_Mo_seekRests.2.1 125 = .ok (.iload_n 2, 1) := by decide +kernel
theorem d_Mo_seekRests_126 : decode M_Mo_seekRests.2.1 126 = .ok (.ireturn, 1) := by decide +kernel
theorem d_Mo_rests_0 : decode M_Mo_rests.2.1 0 = .ok (.aload_n 0, 1) := by decide +kernel
theorem d_Mo_rests_1 : decode M_Mo_rests.2.1 1 = .ok (.invokevirtual 154, 3) := by decide +kernel
theorem d_Mo_rests_4 : decode M_Mo_rests.2.1 4 = .ok (.aload_n 0, 1) := by decide +kernel
theorem d_Mo_rests_5 : decode M_Mo_rests.2.1 5 = .ok (.aload_n 0, 1) := by decide +kernel
theorem d_Mo_rests_6 : decode M_Mo_rests.2.1 6 = .ok (.getfield 167, 3) := by decide +kernel
theorem d_Mo_rests_9 : decode M_Mo_rests.2.1 9 = .ok (.iload_n 1, 1) := by decide +kernel
theorem d_Mo_rests_10 : decode M_Mo_rests.2.1 10 = .ok (.iconst 0, 1) := by decide +kernel
theorem d_Mo_rests_11 : decode M_Mo_rests.2.1 11 = .ok (.bipush 9, 2) := by decide +kernel
theorem d_Mo_rests_13 : decode M_Mo_rests.2.1 13 = .ok (.invokestatic 142, 3) := by decide +kernel
theorem d_Mo_rests_16 : decode M_Mo_rests.2.1 16 = .ok (.invokevirtual 323, 3) := by decide +kernel
theorem d_Mo_rests_19 : decode M_Mo_rests.2.1 19 = .ok (.istore_n 2, 1) := by decide +kernel
theorem d_Mo_rests_20 : decode M_Mo_rests.2.1 20 = .ok (.iload_n 2, 1) := by decide +kernel
theorem d_Mo_rests_21 : decode M_Mo_rests.2.1 21 = .ok (.ifCond .eq 11, 3) := by decide +kernel
theorem d_Mo_rests_24 : decode M_Mo_rests.2.1 24 = .ok (.aload_n 0, 1) := by decide +kernel
theorem d_Mo_rests_25 : decode M_Mo_rests.2.1 25 = .ok (.iload_n 2, 1) := by decide +kernel
theorem d_Mo_rests_26 : decode M_Mo_rests.2.1 26 = .ok (.invokevirtual 157, 3) := by decide +kernel
theorem d_Mo_rests_29 : decode M_Mo_rests.2.1 29 = .ok (.goto 8, 3) := by decide +kernel
theorem d_Mo_rests_32 : decode M_Mo_rests.2.1 32 = .ok (.aload_n 0, 1) := by decide +kernel
theorem d_Mo_rests_33 : decode M_Mo_rests.2.1 33 = .ok (.iload_n 1, 1) := by decide +kernel
theorem d_Mo_rests_34 : decode M_Mo_rests.2.1 34 = .ok (.invokevirtual 381, 3) := by decide +kernel
theorem d_Mo_rests_37 : decode M_Mo_rests.2.1 37 = .ok (.ireturn, 1) := by decide +kernel
theorem d_Mo_rest_0 : decode M_Mo_rest.2.1 0 = .ok (.aload_n 0, 1) := by decide +kernel
theorem d_Mo_rest_1 : decode M_Mo_rest.2.1 1 = .ok (.invokevirtual 154, 3) := by decide +kernel
theorem d_Mo_rest_4 : decode M_Mo_rest.2.1 4 = .ok (.aload_n 0, 1) := by decide +kernel
theorem d_Mo_rest_5 : decode M_Mo_rest.2.1 5 = .ok (.aload_n 0, 1) := by decide +kernel
theorem d_Mo_rest_6 : decode M_Mo_rest.2.1 6 = .ok (.getfield 167, 3) := by decide +kernel
theorem d_Mo_rest_9 : decode M_Mo_rest.2.1 9 = .ok (.iload_n 1, 1) := by decide +kernel
theorem d_Mo_rest_10 : decode M_Mo_rest.2.1 10 = .ok (.iconst 0, 1) := by decide +kernel
theorem d_Mo_rest_11 : decode M_Mo_rest.2.1 11 = .ok (.bipush 9, 2) := by decide +kernel
theorem d_Mo_rest_13 : decode M_Mo_rest.2.1 13 = .ok (.invokestatic 142, 3) := by decide +kernel
theorem d_Mo_rest_16 : decode M_Mo_rest.2.1 16 = .ok (.invokevirtual 323, 3) := by decide +kernel
theorem d_Mo_rest_19 : decode M_Mo_rest.2.1 19 = .ok (.istore_n 2, 1) := by decide +kernel
theorem d_Mo_rest_20 : decode M_Mo_rest.2.1 20 = .ok (.iload_n 2, 1) := by decide +kernel
theorem d_Mo_rest_21 : decode M_Mo_rest.2.1 21 = .ok (.ifCond .eq 9, 3) := by decide +kernel
theorem d_Mo_rest_24 : decode M_Mo_rest.2.1 24 = .ok (.aload_n 0, 1) := by decide +kernel
theorem d_Mo_rest_25 : decode M_Mo_rest.2.1 25 = .ok (.iload_n 2, 1) := by decide +kernel
theorem d_Mo_rest_26 : decode M_Mo_rest.2.1 26 = .ok (.invokevirtual 157, 3) := by decide +kernel
theorem d_Mo_rest_29 : decode M_Mo_rest.2.1 29 = .ok (.ireturn, 1) := by decide +kernel
theorem d_Mo_rest_30 : decode M_Mo_rest.2.1 30 = .ok (.aload_n 0, 1) := by decide +kernel
theorem d_Mo_rest_31 : decode M_Mo_rest.2.1 31 = .ok (.iload_n 1, 1) := by decide +kernel
theorem d_Mo_rest_32 : decode M_Mo_rest.2.1 32 = .ok (.invokevirtual 381, 3) := by decide +kernel
theorem d_Mo_rest_35 : decode M_Mo_rest.2.1 35 = .ok (.pop, 1) := by decide +kernel
theorem d_Mo_rest_36 : decode M_Mo_rest.2.1 36 = .ok (.aload_n 0, 1) := by decide +kernel
theorem d_Mo_rest_37 : decode M_Mo_rest.2.1 37 = .ok (.getfield 378, 3) := by decide +kernel
theorem d_Mo_rest_40 : decode M_Mo_rest.2.1 40 = .ok (.ireturn, 1) := by decide +kernel
set_option maxRecDepth 4000 in
theorem t_Mo_shapedBy_36 {d : Nat} {I : Nat → Nat → Int32} {J : Nat → Nat → Int64} {R : Nat → Nat → Option Nat} {Q : Option Value → ow_H → Prop}  {v1 : Int32} {v2 : Int32} {v4 : Int32} {v5 : Int32}  (hR : ow_RF R) (T : (ow_AM M_Mo_allShapes d [.ref 70] (85, I, J, R) (fun r h' => ∃ (r6 : Int32) (I6 : Nat → Nat → Int32) (J6 : Nat → Nat → Int64) (R6 : Nat → Nat → Option Nat), r = some (.int r6) ∧ h' = (85, I6, J6, R6) ∧ ow_RF R6 ∧ ((r6 ≤ v5 → Q (some (.int v4)) (85, I6, J6, R6)) ∧ (¬ r6 ≤ v5 → (ow_AM M_Mo_wrongBy d [.ref 70, .int v5] (85, I6, J6, R6) (fun r h' => ∃ (r7 : Int32) (I7 : Nat → Nat → Int32) (J7 : Nat → Nat → Int64) (R7 : Nat → Nat → Option Nat), r = some (.int r7) ∧ h' = (85, I7, J7, R7) ∧ ow_RF R7 ∧ ((¬ r7 = (-2) → ow_AW ow_Y0 (ow_Z Q) M_Mo_shapedBy (d + 1) 0 0 36 [(0, .ref 70), (1, .int v1), (2, .int v2), (4, .int (v4 + 0)), (5, .int (v5 + 1))] [] (85, I7, J7, R7) 0 0) ∧ (r7 = (-2) → (ow_AM M_Mo_shapeOf d [.ref 70, .int v5, .int v1] (85, I7, J7, R7) (fun r h' => ∃ (r8 : Int32) (I8 : Nat → Nat → Int32) (J8 : Nat → Nat → Int64) (R8 : Nat → Nat → Option Nat), r = some (.int r8) ∧ h' = (85, I8, J8, R8) ∧ ow_RF R8 ∧ ((¬ r8 = v2 → ow_AW ow_Y0 (ow_Z Q) M_Mo_shapedBy (d + 1) 0 0 36 [(0, .ref 70), (1, .int v1), (2, .int v2), (4, .int (v4 + 0)), (5, .int (v5 + 1))] [] (85, I8, J8, R8) 0 0) ∧ (r8 = v2 → ow_AW ow_Y0 (ow_Z Q) M_Mo_shapedBy (d + 1) 0 0 36 [(0, .ref 70), (1, .int v1), (2, .int v2), (4, .int (v4 + 1)), (5, .int (v5 + 1))] [] (85, I8, J8, R8) 0 0))))))))))))) : ow_AW ow_Y0 (ow_Z Q) M_Mo_shapedBy (d + 1) 0 0 36 [(0, .ref 70), (1, .int v1), (2, .int v2), (4, .int v4), (5, .int v5)] [] (85, I, J, R) 0 0 := by
  refine ow_iload 4 rfl d_Mo_shapedBy_36 ?_
  refine ow_aload_n 0 rfl d_Mo_shapedBy_38 ?_
  refine ow_callV (b := 70) (cq := 12) (As := []) (rest := [.int v5]) (d2 := d) d_Mo_shapedBy_39 l_Mo_349 v_Mo_allShapes (show 70 < 85 by decide) rfl (by decide) rfl (Nat.le_of_ble_eq_true rfl) (Nat.le_refl _) ⟨Nat.le_refl _, Nat.le_refl _⟩ (ow_mono T ?_)
  rintro r h' ⟨r6, I6, J6, R6, rfl, rfl, hR6, T⟩
  show ow_AW ow_Y0 (ow_Z Q) M_Mo_shapedBy (d + 1) 0 0 42 [(0, .ref 70), (1, .int v1), (2, .int v2), (4, .int v4), (5, .int v5)] [.int r6, .int v5] (85, I6, J6, R6) 0 0
  refine ow_icmp_ge (tgt := 83) d_Mo_shapedBy_42 (by decide) (fun c => ?_) (fun c => ?_)
  · replace T := T.1 c
    refine ow_iload 3 rfl d_Mo_shapedBy_83 ?_
    exact ow_iret d_Mo_shapedBy_85 rfl T
  · replace T := T.2 c
    refine ow_iload 3 rfl d_Mo_shapedBy_45 ?_
    refine ow_aload_n 0 rfl d_Mo_shapedBy_47 ?_
    refine ow_iload 4 rfl d_Mo_shapedBy_48 ?_
    refine ow_callV (b := 70) (cq := 12) (As := [.int v5]) (rest := [.int v4]) (d2 := d) d_Mo_shapedBy_50 l_Mo_352 v_Mo_wrongBy (show 70 < 85 by decide) rfl (by decide) rfl (Nat.le_of_ble_eq_true rfl) (Nat.le_refl _) ⟨Nat.le_refl _, Nat.le_refl _⟩ (ow_mono T ?_)
    rintro r h' ⟨r7, I7, J7, R7, rfl, rfl, hR7, T⟩
    show ow_AW ow_Y0 (ow_Z Q) M_Mo_shapedBy (d + 1) 0 0 53 [(0, .ref 70), (1, .int v1), (2, .int v2), (4, .int v4), (5, .int v5)] [.int r7, .int v4] (85, I7, J7, R7) 0 0
    refine ow_bipush (v := (-2)) (by decide) d_Mo_shapedBy_53 ?_
    refine ow_icmp_ne (tgt := 73) d_Mo_shapedBy_55 (by decide) (fun c => ?_) (fun c => ?_)
    · replace T := T.1 c
      refine ow_iconst (v := 0) (by decide) d_Mo_shapedBy_73 ?_
      refine ow_iadd d_Mo_shapedBy_74 ?_
      refine ow_istore (ls2 := [(4, .int (v4 + 0)), (0, .ref 70), (1, .int v1), (2, .int v2), (5, .int v5)]) d_Mo_shapedBy_75 (by decide) rfl ?_
      refine ow_iinc 4 (v := (v5 + 1)) (ls2 := [(5, .int (v5 + 1)), (4, .int (v4 + 0)), (0, .ref 70), (1, .int v1), (2, .int v2)]) d_Mo_shapedBy_77 rfl rfl (by decide) rfl ?_
      refine ow_goto (tgt := 36) d_Mo_shapedBy_80 (by decide) ?_
      refine ow_sub [2, 3, 4, 1, 0] rfl ?_
      exact T
    · replace T := T.2 c
      refine ow_aload_n 0 rfl d_Mo_shapedBy_58 ?_
      refine ow_iload 4 rfl d_Mo_shapedBy_59 ?_
      refine ow_iload_n 1 rfl d_Mo_shapedBy_61 ?_
      refine ow_callV (b := 70) (cq := 12) (As := [.int v5, .int v1]) (rest := [.int v4]) (d2 := d) d_Mo_shapedBy_62 l_Mo_346 v_Mo_shapeOf (show 70 < 85 by decide) rfl (by decide) rfl (Nat.le_of_ble_eq_true rfl) (Nat.le_refl _) ⟨Nat.le_refl _, Nat.le_refl _⟩ (ow_mono T ?_)
      rintro r h' ⟨r8, I8, J8, R8, rfl, rfl, hR8, T⟩
      show ow_AW ow_Y0 (ow_Z Q) M_Mo_shapedBy (d + 1) 0 0 65 [(0, .ref 70), (1, .int v1), (2, .int v2), (4, .int v4), (5, .int v5)] [.int r8, .int v4] (85, I8, J8, R8) 0 0
      refine ow_iload_n 2 rfl d_Mo_shapedBy_65 ?_
      refine ow_icmp_ne (tgt := 73) d_Mo_shapedBy_66 (by decide) (fun c => ?_) (fun c => ?_)
      · replace T := T.1 c
        refine ow_iconst (v := 0) (by decide) d_Mo_shapedBy_73 ?_
        refine ow_iadd d_Mo_shapedBy_74 ?_
        refine ow_istore (ls2 := [(4, .int (v4 + 0)), (0, .ref 70), (1, .int v1), (2, .int v2), (5, .int v5)]) d_Mo_shapedBy_75 (by decide) rfl ?_
        refine ow_iinc 4 (v := (v5 + 1)) (ls2 := [(5, .int (v5 + 1)), (4, .int (v4 + 0)), (0, .ref 70), (1, .int v1), (2, .int v2)]) d_Mo_shapedBy_77 rfl rfl (by decide) rfl ?_
        refine ow_goto (tgt := 36) d_Mo_shapedBy_80 (by decide) ?_
        refine ow_sub [2, 3, 4, 1, 0] rfl ?_
        exact T
      · replace T := T.2 c
        refine ow_iconst (v := 1) (by decide) d_Mo_shapedBy_69 ?_
        refine ow_goto (tgt := 74) d_Mo_shapedBy_70 (by decide) ?_
        refine ow_iadd d_Mo_shapedBy_74 ?_
        refine ow_istore (ls2 := [(4, .int (v4 + 1)), (0, .ref 70), (1, .int v1), (2, .int v2), (5, .int v5)]) d_Mo_shapedBy_75 (by decide) rfl ?_
        refine ow_iinc 4 (v := (v5 + 1)) (ls2 := [(5, .int (v5 + 1)), (4, .int (v4 + 1)), (0, .ref 70), (1, .int v1), (2, .int v2)]) d_Mo_shapedBy_77 rfl rfl (by decide) rfl ?_
        refine ow_goto (tgt := 36) d_Mo_shapedBy_80 (by decide) ?_
        refine ow_sub [2, 3, 4, 1, 0] rfl ?_
        exact T
set_option maxRecDepth 4000 in
theorem t_Mo_shapedBy {d : Nat} {I : Nat → Nat → Int32} {J : Nat → Nat → Int64} {R : Nat → Nat → Option Nat} {Q : Option Value → ow_H → Prop} {p1 : Int32} {p2 : Int32}  (hR : ow_RF R) (T : (ow_AM M_Mo_good d [.ref 70] (85, I, J, R) (fun r h' => ∃ (I9 : Nat → Nat → Int32) (J9 : Nat → Nat → Int64) (R9 : Nat → Nat → Option Nat), r = none ∧ h' = (85, I9, J9, R9) ∧ ow_RF R9 ∧ (ow_AM M_Mo_isVeiled d [.ref 70, .int p1] (85, I9, J9, R9) (fun r h' => ∃ (r10 : Int32) (I10 : Nat → Nat → Int32) (J10 : Nat → Nat → Int64) (R10 : Nat → Nat → Option Nat), r = some (.int r10) ∧ h' = (85, I10, J10, R10) ∧ ow_RF R10 ∧ (ow_AM M_Mo_in d [.int p2, .int 0, .int 4] (85, I10, J10, R10) (fun r h' => ∃ (r11 : Int32) (I11 : Nat → Nat → Int32) (J11 : Nat → Nat → Int64) (R11 : Nat → Nat → Option Nat), r = some (.int r11) ∧ h' = (85, I11, J11, R11) ∧ ow_RF R11 ∧ (ow_AM M_Mo_why d [.ref 70, .int r10, .int r11] (85, I11, J11, R11) (fun r h' => ∃ (r12 : Int32) (I12 : Nat → Nat → Int32) (J12 : Nat → Nat → Int64) (R12 : Nat → Nat → Option Nat), r = some (.int r12) ∧ h' = (85, I12, J12, R12) ∧ ow_RF R12 ∧ ((r12 = 0 → ow_AW ow_Y0 (ow_Z Q) M_Mo_shapedBy (d + 1) 0 0 36 [(0, .ref 70), (1, .int p1), (2, .int p2), (4, .int 0), (5, .int 0)] [] (85, I12, J12, R12) 0 0) ∧ (¬ r12 = 0 → (ow_AM M_Mo_no d [.ref 70, .int r12] (85, I12, J12, R12) (fun r h' => ∃ (r13 : Int32) (I13 : Nat → Nat → Int32) (J13 : Nat → Nat → Int64) (R13 : Nat → Nat → Option Nat), r = some (.int r13) ∧ h' = (85, I13, J13, R13) ∧ ow_RF R13 ∧ Q (some (.int r13)) (85, I13, J13, R13)))))))))))))) : ow_AM M_Mo_shapedBy (d + 1) [.ref 70, .int p1, .int p2] (85, I, J, R) Q := by
  refine ow_enter (by decide) (Nat.le_of_ble_eq_true rfl) ?_
  show ow_AW ow_Y0 (ow_Z Q) M_Mo_shapedBy (d + 1) 0 0 0 [(0, .ref 70), (1, .int p1), (2, .int p2)] [] (85, I, J, R) 0 0
  refine ow_aload_n 0 rfl d_Mo_shapedBy_0 ?_
  refine ow_callV (b := 70) (cq := 12) (As := []) (rest := []) (d2 := d) d_Mo_shapedBy_1 l_Mo_154 v_Mo_good (show 70 < 85 by decide) rfl (by decide) rfl (Nat.le_of_ble_eq_true rfl) (Nat.le_refl _) ⟨Nat.le_refl _, Nat.le_refl _⟩ (ow_mono T ?_)
  rintro r h' ⟨I9, J9, R9, rfl, rfl, hR9, T⟩
  show ow_AW ow_Y0 (ow_Z Q) M_Mo_shapedBy (d + 1) 0 0 4 [(0, .ref 70), (1, .int p1), (2, .int p2)] [] (85, I9, J9, R9) 0 0
  refine ow_aload_n 0 rfl d_Mo_shapedBy_4 ?_
  refine ow_aload_n 0 rfl d_Mo_shapedBy_5 ?_
  refine ow_iload_n 1 rfl d_Mo_shapedBy_6 ?_
  refine ow_callV (b := 70) (cq := 12) (As := [.int p1]) (rest := [.ref 70]) (d2 := d) d_Mo_shapedBy_7 l_Mo_355 v_Mo_isVeiled (show 70 < 85 by decide) rfl (by decide) rfl (Nat.le_of_ble_eq_true rfl) (Nat.le_refl _) ⟨Nat.le_refl _, Nat.le_refl _⟩ (ow_mono T ?_)
  rintro r h' ⟨r10, I10, J10, R10, rfl, rfl, hR10, T⟩
  show ow_AW ow_Y0 (ow_Z Q) M_Mo_shapedBy (d + 1) 0 0 10 [(0, .ref 70), (1, .int p1), (2, .int p2)] [.int r10, .ref 70] (85, I10, J10, R10) 0 0
  refine ow_iload_n 2 rfl d_Mo_shapedBy_10 ?_
  refine ow_iconst (v := 0) (by decide) d_Mo_shapedBy_11 ?_
  refine ow_iconst (v := 4) (by decide) d_Mo_shapedBy_12 ?_
  refine ow_callS (As := [.int p2, .int 0, .int 4]) (rest := [.int r10, .ref 70]) (d2 := d) d_Mo_shapedBy_13 l_Mo_142 v_Mo_in (Nat.le_of_ble_eq_true rfl) (Nat.le_refl _) ⟨Nat.le_refl _, Nat.le_refl _⟩ (ow_mono T ?_)
  rintro r h' ⟨r11, I11, J11, R11, rfl, rfl, hR11, T⟩
  show ow_AW ow_Y0 (ow_Z Q) M_Mo_shapedBy (d + 1) 0 0 16 [(0, .ref 70), (1, .int p1), (2, .int p2)] [.int r11, .int r10, .ref 70] (85, I11, J11, R11) 0 0
  refine ow_callV (b := 70) (cq := 12) (As := [.int r10, .int r11]) (rest := []) (d2 := d) d_Mo_shapedBy_16 l_Mo_323 v_Mo_why (show 70 < 85 by decide) rfl (by decide) rfl (Nat.le_of_ble_eq_true rfl) (Nat.le_refl _) ⟨Nat.le_refl _, Nat.le_refl _⟩ (ow_mono T ?_)
  rintro r h' ⟨r12, I12, J12, R12, rfl, rfl, hR12, T⟩
  show ow_AW ow_Y0 (ow_Z Q) M_Mo_shapedBy (d + 1) 0 0 19 [(0, .ref 70), (1, .int p1), (2, .int p2)] [.int r12] (85, I12, J12, R12) 0 0
  refine ow_istore_n (ls2 := [(3, .int r12), (0, .ref 70), (1, .int p1), (2, .int p2)]) d_Mo_shapedBy_19 (by decide) rfl ?_
  refine ow_iload_n 0 rfl d_Mo_shapedBy_20 ?_
  refine ow_if_eq (tgt := 30) d_Mo_shapedBy_21 (by decide) (fun c => ?_) (fun c => ?_)
  · replace T := T.1 c
    refine ow_iconst (v := 0) (by decide) d_Mo_shapedBy_30 ?_
    refine ow_istore (ls2 := [(4, .int 0), (3, .int r12), (0, .ref 70), (1, .int p1), (2, .int p2)]) d_Mo_shapedBy_31 (by decide) rfl ?_
    refine ow_iconst (v := 0) (by decide) d_Mo_shapedBy_33 ?_
    refine ow_istore (ls2 := [(5, .int 0), (4, .int 0), (3, .int r12), (0, .ref 70), (1, .int p1), (2, .int p2)]) d_Mo_shapedBy_34 (by decide) rfl ?_
    refine ow_sub [3, 4, 5, 1, 0] rfl ?_
    exact T
  · replace T := T.2 c
    refine ow_aload_n 1 rfl d_Mo_shapedBy_24 ?_
    refine ow_iload_n 0 rfl d_Mo_shapedBy_25 ?_
    refine ow_callV (b := 70) (cq := 12) (As := [.int r12]) (rest := []) (d2 := d) d_Mo_shapedBy_26 l_Mo_157 v_Mo_no (show 70 < 85 by decide) rfl (by decide) rfl (Nat.le_of_ble_eq_true rfl) (Nat.le_refl _) ⟨Nat.le_refl _, Nat.le_refl _⟩ (ow_mono T ?_)
    rintro r h' ⟨r13, I13, J13, R13, rfl, rfl, hR13, T⟩
    show ow_AW ow_Y0 (ow_Z Q) M_Mo_shapedBy (d + 1) 0 0 29 [(3, .int r12), (0, .ref 70), (1, .int p1), (2, .int p2)] [.int r13] (85, I13, J13, R13) 0 0
    exact ow_iret d_Mo_shapedBy_29 rfl T
set_option maxRecDepth 4000 in
theorem t_Mo_tryOf_2 {d : Nat} {I : Nat → Nat → Int32} {J : Nat → Nat → Int64} {R : Nat → Nat → Option Nat} {Q : Option Value → ow_H → Prop}  {v1 : Int32}  (hR : ow_RF R) (T : ((36 ≤ v1 → ow_AW ow_Y0 (ow_Z Q) M_Mo_tryOf (d + 1) 0 0 23 [(0, .ref 70), (1, .int 0)] [] (85, I, J, R) 0 0) ∧ (¬ 36 ≤ v1 → (vp_in v1 36 ∧ (∀ (I1 : Nat → Nat → Int32), I1 = ow_u I 83 (v1.toNatClampNeg) 0 → ow_AW ow_Y0 (ow_Z Q) M_Mo_tryOf (d + 1) 0 0 2 [(0, .ref 70), (1, .int (v1 + 1))] [] (85, I1, J, R) 0 0))))) : ow_AW ow_Y0 (ow_Z Q) M_Mo_tryOf (d + 1) 0 0 2 [(0, .ref 70), (1, .int v1)] [] (85, I, J, R) 0 0 := by
  refine ow_iload_n 1 rfl d_Mo_tryOf_2 ?_
  refine ow_bipush (v := 36) (by decide) d_Mo_tryOf_3 ?_
  refine ow_icmp_ge (tgt := 21) d_Mo_tryOf_5 (by decide) (fun c => ?_) (fun c => ?_)
  · replace T := T.1 c
    refine ow_iconst (v := 0) (by decide) d_Mo_tryOf_21 ?_
    refine ow_istore_n (ls2 := [(1, .int 0), (0, .ref 70)]) d_Mo_tryOf_22 (by decide) rfl ?_
    refine ow_sub [1, 0] rfl ?_
    exact T
  · replace T := T.2 c
    refine ow_aload_n 0 rfl d_Mo_tryOf_8 ?_
    refine ow_gR (a := 83) 203 d_Mo_tryOf_9 rfl rfl (by decide) rfl ⟨rfl, hR 70 34 (by decide)⟩ ?_
    refine ow_iload_n 1 rfl d_Mo_tryOf_12 ?_
    refine ow_iconst (v := 0) (by decide) d_Mo_tryOf_13 ?_
    obtain ⟨cI, T⟩ := T
    refine ow_hiastore d_Mo_tryOf_14 (by decide) rfl rfl cI ?_
    obtain ⟨I1, eI1⟩ : ∃ uu, uu = ow_u I 83 (v1.toNatClampNeg) 0 := ⟨_, rfl⟩
    replace T := T I1 eI1
    rw [← eI1]
    refine ow_iinc 1 (v := (v1 + 1)) (ls2 := [(1, .int (v1 + 1)), (0, .ref 70)]) d_Mo_tryOf_15 rfl rfl (by decide) rfl ?_
    refine ow_goto (tgt := 2) d_Mo_tryOf_18 (by decide) ?_
    refine ow_sub [1, 0] rfl ?_
    exact T
set_option maxRecDepth 4000 in
theorem t_Mo_tryOf_23 {d : Nat} {I : Nat → Nat → Int32} {J : Nat → Nat → Int64} {R : Nat → Nat → Option Nat} {Q : Option Value → ow_H → Prop}  {v1 : Int32}  (hR : ow_RF R) (T : (ow_AM M_Mo_allShapes d [.ref 70] (85, I, J, R) (fun r h' => ∃ (r2 : Int32) (I2 : Nat → Nat → Int32) (J2 : Nat → Nat → Int64) (R2 : Nat → Nat → Option Nat), r = some (.int r2) ∧ h' = (85, I2, J2, R2) ∧ ow_RF R2 ∧ ((r2 ≤ v1 → (∀ (I3 : Nat → Nat → Int32), I3 = ow_u I2 70 35 (-2) → ow_AW ow_Y0 (ow_Z Q) M_Mo_tryOf (d + 1) 0 0 113 [(0, .ref 70), (1, .int (-2)), (2, .int 0)] [] (85, I3, J2, R2) 0 0)) ∧ (¬ r2 ≤ v1 → (ow_AM M_Mo_wrongBy d [.ref 70, .int v1] (85, I2, J2, R2) (fun r h' => ∃ (r4 : Int32) (I4 : Nat → Nat → Int32) (J4 : Nat → Nat → Int64) (R4 : Nat → Nat → Option Nat), r = some (.int r4) ∧ h' = (85, I4, J4, R4) ∧ ow_RF R4 ∧ ((r4 = (-2) → ow_AW ow_Y0 (ow_Z Q) M_Mo_tryOf (d + 1) 0 0 46 [(0, .ref 70), (1, .int v1), (2, .int 0)] [] (85, I4, J4, R4) 0 0) ∧ (¬ r4 = (-2) → ow_AW ow_Y0 (ow_Z Q) M_Mo_tryOf (d + 1) 0 0 23 [(0, .ref 70), (1, .int (v1 + 1))] [] (85, I4, J4, R4) 0 0))))))))) : ow_AW ow_Y0 (ow_Z Q) M_Mo_tryOf (d + 1) 0 0 23 [(0, .ref 70), (1, .int v1)] [] (85, I, J, R) 0 0 := by
  refine ow_iload_n 1 rfl d_Mo_tryOf_23 ?_
  refine ow_aload_n 0 rfl d_Mo_tryOf_24 ?_
  refine ow_callV (b := 70) (cq := 12) (As := []) (rest := [.int v1]) (d2 := d) d_Mo_tryOf_25 l_Mo_349 v_Mo_allShapes (show 70 < 85 by decide) rfl (by decide) rfl (Nat.le_of_ble_eq_true rfl) (Nat.le_refl _) ⟨Nat.le_refl _, Nat.le_refl _⟩ (ow_mono T ?_)
  rintro r h' ⟨r2, I2, J2, R2, rfl, rfl, hR2, T⟩
  show ow_AW ow_Y0 (ow_Z Q) M_Mo_tryOf (d + 1) 0 0 28 [(0, .ref 70), (1, .int v1)] [.int r2, .int v1] (85, I2, J2, R2) 0 0
  refine ow_icmp_ge (tgt := 102) d_Mo_tryOf_28 (by decide) (fun c => ?_) (fun c => ?_)
  · replace T := T.1 c
    refine ow_bipush (v := (-2)) (by decide) d_Mo_tryOf_102 ?_
    refine ow_istore_n (ls2 := [(1, .int (-2)), (0, .ref 70)]) d_Mo_tryOf_104 (by decide) rfl ?_
    refine ow_aload_n 1 rfl d_Mo_tryOf_105 ?_
    refine ow_bipush (v := (-2)) (by decide) d_Mo_tryOf_106 ?_
    refine ow_pI 204 d_Mo_tryOf_108 rfl rfl (by decide) rfl rfl rfl ?_
    obtain ⟨I3, eI3⟩ : ∃ uu, uu = ow_u I2 70 35 (-2) := ⟨_, rfl⟩
    replace T := T I3 eI3
    rw [← eI3]
    refine ow_iconst (v := 0) (by decide) d_Mo_tryOf_111 ?_
    refine ow_istore_n (ls2 := [(2, .int 0), (1, .int (-2)), (0, .ref 70)]) d_Mo_tryOf_112 (by decide) rfl ?_
    refine ow_sub [2, 1, 0] rfl ?_
    exact T
  · replace T := T.2 c
    refine ow_aload_n 0 rfl d_Mo_tryOf_31 ?_
    refine ow_iload_n 1 rfl d_Mo_tryOf_32 ?_
    refine ow_callV (b := 70) (cq := 12) (As := [.int v1]) (rest := []) (d2 := d) d_Mo_tryOf_33 l_Mo_352 v_Mo_wrongBy (show 70 < 85 by decide) rfl (by decide) rfl (Nat.le_of_ble_eq_true rfl) (Nat.le_refl _) ⟨Nat.le_refl _, Nat.le_refl _⟩ (ow_mono T ?_)
    rintro r h' ⟨r4, I4, J4, R4, rfl, rfl, hR4, T⟩
    show ow_AW ow_Y0 (ow_Z Q) M_Mo_tryOf (d + 1) 0 0 36 [(0, .ref 70), (1, .int v1)] [.int r4] (85, I4, J4, R4) 0 0
    refine ow_bipush (v := (-2)) (by decide) d_Mo_tryOf_36 ?_
    refine ow_icmp_eq (tgt := 44) d_Mo_tryOf_38 (by decide) (fun c => ?_) (fun c => ?_)
    · replace T := T.1 c
      refine ow_iconst (v := 0) (by decide) d_Mo_tryOf_44 ?_
      refine ow_istore_n (ls2 := [(2, .int 0), (0, .ref 70), (1, .int v1)]) d_Mo_tryOf_45 (by decide) rfl ?_
      refine ow_sub [1, 2, 0] rfl ?_
      exact T
    · replace T := T.2 c
      refine ow_goto (tgt := 96) d_Mo_tryOf_41 (by decide) ?_
      refine ow_iinc 1 (v := (v1 + 1)) (ls2 := [(1, .int (v1 + 1)), (0, .ref 70)]) d_Mo_tryOf_96 rfl rfl (by decide) rfl ?_
      refine ow_goto (tgt := 23) d_Mo_tryOf_99 (by decide) ?_
      refine ow_sub [1, 0] rfl ?_
      exact T
set_option maxRecDepth 4000 in
theorem t_Mo_tryOf_46 {d : Nat} {I : Nat → Nat → Int32} {J : Nat → Nat → Int64} {R : Nat → Nat → Option Nat} {Q : Option Value → ow_H → Prop}  {v1 : Int32} {v2 : Int32}  (hR : ow_RF R) (T : (((2 * (I 73 2)) ≤ v2 → ow_AW ow_Y0 (ow_Z Q) M_Mo_tryOf (d + 1) 0 0 23 [(0, .ref 70), (1, .int (v1 + 1))] [] (85, I, J, R) 0 0) ∧ (¬ (2 * (I 73 2)) ≤ v2 → (ow_AM M_Mo_signsOf d [.ref 70, .ref 75, .int v2] (85, I, J, R) (fun r h' => ∃ (r5 : Int32) (I5 : Nat → Nat → Int32) (J5 : Nat → Nat → Int64) (R5 : Nat → Nat → Option Nat), r = some (.int r5) ∧ h' = (85, I5, J5, R5) ∧ ow_RF R5 ∧ ((0 ≤ r5 → (vp_in ((3 * v2) + r5) 36 ∧ (vp_in ((3 * v2) + r5) 36 ∧ (∀ (I6 : Nat → Nat → Int32), I6 = ow_u I5 83 (((3 * v2) + r5).toNatClampNeg) ((I5 83 ((3 * v2) + r5).toNatClampNeg) + 1) → ow_AW ow_Y0 (ow_Z Q) M_Mo_tryOf (d + 1) 0 0 46 [(0, .ref 70), (1, .int v1), (2, .int (v2 + 1))] [] (85, I6, J5, R5) 0 0)))) ∧ (¬ 0 ≤ r5 → (vp_in ((3 * v2) + 2) 36 ∧ (vp_in ((3 * v2) + 2) 36 ∧ (∀ (I7 : Nat → Nat → Int32), I7 = ow_u I5 83 (((3 * v2) + 2).toNatClampNeg) ((I5 83 ((3 * v2) + 2).toNatClampNeg) + 1) → ow_AW ow_Y0 (ow_Z Q) M_Mo_tryOf (d + 1) 0 0 46 [(0, .ref 70), (1, .int v1), (2, .int (v2 + 1))] [] (85, I7, J5, R5) 0 0)))))))))) : ow_AW ow_Y0 (ow_Z Q) M_Mo_tryOf (d + 1) 0 0 46 [(0, .ref 70), (1, .int v1), (2, .int v2)] [] (85, I, J, R) 0 0 := by
  refine ow_iload_n 2 rfl d_Mo_tryOf_46 ?_
  refine ow_iconst (v := 2) (by decide) d_Mo_tryOf_47 ?_
  refine ow_aload_n 0 rfl d_Mo_tryOf_48 ?_
  refine ow_gR (a := 73) 184 d_Mo_tryOf_49 rfl rfl (by decide) rfl ⟨rfl, hR 70 15 (by decide)⟩ ?_
  refine ow_iconst (v := 2) (by decide) d_Mo_tryOf_52 ?_
  refine ow_hiaload d_Mo_tryOf_53 (by decide) rfl rfl (show vp_in (2 : Int32) 146 by unfold vp_in; decide) ?_
  show ow_AW ow_Y0 (ow_Z Q) M_Mo_tryOf (d + 1) 0 0 54 [(0, .ref 70), (1, .int v1), (2, .int v2)] [.int (I 73 2), .int 2, .int v2] (85, I, J, R) 0 0
  refine ow_imul d_Mo_tryOf_54 ?_
  refine ow_icmp_ge (tgt := 96) d_Mo_tryOf_55 (by decide) (fun c => ?_) (fun c => ?_)
  · replace T := T.1 c
    refine ow_iinc 1 (v := (v1 + 1)) (ls2 := [(1, .int (v1 + 1)), (0, .ref 70), (2, .int v2)]) d_Mo_tryOf_96 rfl rfl (by decide) rfl ?_
    refine ow_goto (tgt := 23) d_Mo_tryOf_99 (by decide) ?_
    refine ow_sub [1, 0] rfl ?_
    exact T
  · replace T := T.2 c
    refine ow_aload_n 0 rfl d_Mo_tryOf_58 ?_
    refine ow_aload_n 0 rfl d_Mo_tryOf_59 ?_
    refine ow_gR (a := 75) 186 d_Mo_tryOf_60 rfl rfl (by decide) rfl ⟨rfl, hR 70 17 (by decide)⟩ ?_
    refine ow_iload_n 2 rfl d_Mo_tryOf_63 ?_
    refine ow_callV (b := 70) (cq := 12) (As := [.ref 75, .int v2]) (rest := []) (d2 := d) d_Mo_tryOf_64 l_Mo_292 v_Mo_signsOf (show 70 < 85 by decide) rfl (by decide) rfl (Nat.le_of_ble_eq_true rfl) (Nat.le_refl _) ⟨Nat.le_refl _, Nat.le_refl _⟩ (ow_mono T ?_)
    rintro r h' ⟨r5, I5, J5, R5, rfl, rfl, hR5, T⟩
    show ow_AW ow_Y0 (ow_Z Q) M_Mo_tryOf (d + 1) 0 0 67 [(0, .ref 70), (1, .int v1), (2, .int v2)] [.int r5] (85, I5, J5, R5) 0 0
    refine ow_istore_n (ls2 := [(3, .int r5), (0, .ref 70), (1, .int v1), (2, .int v2)]) d_Mo_tryOf_67 (by decide) rfl ?_
    refine ow_aload_n 1 rfl d_Mo_tryOf_68 ?_
    refine ow_gR (a := 83) 203 d_Mo_tryOf_69 rfl rfl (by decide) rfl ⟨rfl, hR5 70 34 (by decide)⟩ ?_
    refine ow_iconst (v := 3) (by decide) d_Mo_tryOf_72 ?_
    refine ow_iload_n 3 rfl d_Mo_tryOf_73 ?_
    refine ow_imul d_Mo_tryOf_74 ?_
    refine ow_iload_n 0 rfl d_Mo_tryOf_75 ?_
    refine ow_if_ge (tgt := 83) d_Mo_tryOf_76 (by decide) (fun c => ?_) (fun c => ?_)
    · replace T := T.1 c
      refine ow_iload_n 0 rfl d_Mo_tryOf_83 ?_
      refine ow_iadd d_Mo_tryOf_84 ?_
      refine ow_dup2_11 rfl rfl d_Mo_tryOf_85 ?_
      obtain ⟨cI, T⟩ := T
      refine ow_hiaload d_Mo_tryOf_86 (by decide) rfl rfl cI ?_
      refine ow_iconst (v := 1) (by decide) d_Mo_tryOf_87 ?_
      refine ow_iadd d_Mo_tryOf_88 ?_
      obtain ⟨cI, T⟩ := T
      refine ow_hiastore d_Mo_tryOf_89 (by decide) rfl rfl cI ?_
      obtain ⟨I6, eI6⟩ : ∃ uu, uu = ow_u I5 83 (((3 * v2) + r5).toNatClampNeg) ((I5 83 ((3 * v2) + r5).toNatClampNeg) + 1) := ⟨_, rfl⟩
      replace T := T I6 eI6
      rw [← eI6]
      refine ow_iinc 3 (v := (v2 + 1)) (ls2 := [(2, .int (v2 + 1)), (3, .int r5), (0, .ref 70), (1, .int v1)]) d_Mo_tryOf_90 rfl rfl (by decide) rfl ?_
      refine ow_goto (tgt := 46) d_Mo_tryOf_93 (by decide) ?_
      refine ow_sub [2, 3, 0] rfl ?_
      exact T
    · replace T := T.2 c
      refine ow_iconst (v := 2) (by decide) d_Mo_tryOf_79 ?_
      refine ow_goto (tgt := 84) d_Mo_tryOf_80 (by decide) ?_
      refine ow_iadd d_Mo_tryOf_84 ?_
      refine ow_dup2_11 rfl rfl d_Mo_tryOf_85 ?_
      obtain ⟨cI, T⟩ := T
      refine ow_hiaload d_Mo_tryOf_86 (by decide) rfl rfl cI ?_
      refine ow_iconst (v := 1) (by decide) d_Mo_tryOf_87 ?_
      refine ow_iadd d_Mo_tryOf_88 ?_
      obtain ⟨cI, T⟩ := T
      refine ow_hiastore d_Mo_tryOf_89 (by decide) rfl rfl cI ?_
      obtain ⟨I7, eI7⟩ : ∃ uu, uu = ow_u I5 83 (((3 * v2) + 2).toNatClampNeg) ((I5 83 ((3 * v2) + 2).toNatClampNeg) + 1) := ⟨_, rfl⟩
      replace T := T I7 eI7
      rw [← eI7]
      refine ow_iinc 3 (v := (v2 + 1)) (ls2 := [(2, .int (v2 + 1)), (3, .int r5), (0, .ref 70), (1, .int v1)]) d_Mo_tryOf_90 rfl rfl (by decide) rfl ?_
      refine ow_goto (tgt := 46) d_Mo_tryOf_93 (by decide) ?_
      refine ow_sub [2, 3, 0] rfl ?_
      exact T
set_option maxRecDepth 4000 in
theorem t_Mo_tryOf_113 {d : Nat} {I : Nat → Nat → Int32} {J : Nat → Nat → Int64} {R : Nat → Nat → Option Nat} {Q : Option Value → ow_H → Prop}  {v1 : Int32} {v2 : Int32}  (hR : ow_RF R) (T : (((2 * (I 73 2)) ≤ v2 → Q (some (.int v1)) (85, I, J, R)) ∧ (¬ (2 * (I 73 2)) ≤ v2 → ow_AW ow_Y0 (ow_Z Q) M_Mo_tryOf (d + 1) 0 0 130 [(0, .ref 70), (1, .int v1), (2, .int v2), (3, .int 0), (4, .int 0)] [] (85, I, J, R) 0 0))) : ow_AW ow_Y0 (ow_Z Q) M_Mo_tryOf (d + 1) 0 0 113 [(0, .ref 70), (1, .int v1), (2, .int v2)] [] (85, I, J, R) 0 0 := by
  refine ow_iload_n 2 rfl d_Mo_tryOf_113 ?_
  refine ow_iconst (v := 2) (by decide) d_Mo_tryOf_114 ?_
  refine ow_aload_n 0 rfl d_Mo_tryOf_115 ?_
  refine ow_gR (a := 73) 184 d_Mo_tryOf_116 rfl rfl (by decide) rfl ⟨rfl, hR 70 15 (by decide)⟩ ?_
  refine ow_iconst (v := 2) (by decide) d_Mo_tryOf_119 ?_
  refine ow_hiaload d_Mo_tryOf_120 (by decide) rfl rfl (show vp_in (2 : Int32) 146 by unfold vp_in; decide) ?_
  show ow_AW ow_Y0 (ow_Z Q) M_Mo_tryOf (d + 1) 0 0 121 [(0, .ref 70), (1, .int v1), (2, .int v2)] [.int (I 73 2), .int 2, .int v2] (85, I, J, R) 0 0
  refine ow_imul d_Mo_tryOf_121 ?_
  refine ow_icmp_ge (tgt := 205) d_Mo_tryOf_122 (by decide) (fun c => ?_) (fun c => ?_)
  · replace T := T.1 c
    refine ow_iload_n 1 rfl d_Mo_tryOf_205 ?_
    exact ow_iret d_Mo_tryOf_206 rfl T
  · replace T := T.2 c
    refine ow_iconst (v := 0) (by decide) d_Mo_tryOf_125 ?_
    refine ow_istore_n (ls2 := [(3, .int 0), (0, .ref 70), (1, .int v1), (2, .int v2)]) d_Mo_tryOf_126 (by decide) rfl ?_
    refine ow_iconst (v := 0) (by decide) d_Mo_tryOf_127 ?_
    refine ow_istore (ls2 := [(4, .int 0), (3, .int 0), (0, .ref 70), (1, .int v1), (2, .int v2)]) d_Mo_tryOf_128 (by decide) rfl ?_
    refine ow_sub [2, 3, 4, 1, 0] rfl ?_
    exact T
set_option maxRecDepth 4000 in
theorem t_Mo_tryOf_130 {d : Nat} {I : Nat → Nat → Int32} {J : Nat → Nat → Int64} {R : Nat → Nat → Option Nat} {Q : Option Value → ow_H → Prop}  {v1 : Int32} {v2 : Int32} {v3 : Int32} {v4 : Int32}  (hR : ow_RF R) (T : ((3 ≤ v4 → ((v3 = 0 → ow_AW ow_Y0 (ow_Z Q) M_Mo_tryOf (d + 1) 0 0 113 [(0, .ref 70), (1, .int v1), (2, .int (v2 + 1))] [] (85, I, J, R) 0 0) ∧ (¬ v3 = 0 → ((v1 < 0 → (∀ (I8 : Nat → Nat → Int32), I8 = ow_u I 70 35 v3 → ow_AW ow_Y0 (ow_Z Q) M_Mo_tryOf (d + 1) 0 0 113 [(0, .ref 70), (1, .int v2), (2, .int (v2 + 1))] [] (85, I8, J, R) 0 0)) ∧ (¬ v1 < 0 → ((v3 < (I 70 35) → (∀ (I9 : Nat → Nat → Int32), I9 = ow_u I 70 35 v3 → ow_AW ow_Y0 (ow_Z Q) M_Mo_tryOf (d + 1) 0 0 113 [(0, .ref 70), (1, .int v2), (2, .int (v2 + 1))] [] (85, I9, J, R) 0 0)) ∧ (¬ v3 < (I 70 35) → ow_AW ow_Y0 (ow_Z Q) M_Mo_tryOf (d + 1) 0 0 113 [(0, .ref 70), (1, .int v1), (2, .int (v2 + 1))] [] (85, I, J, R) 0 0))))))) ∧ (¬ 3 ≤ v4 → (vp_in ((3 * v2) + v4) 36 ∧ (((I 83 ((3 * v2) + v4).toNatClampNeg) ≤ v3 → ow_AW ow_Y0 (ow_Z Q) M_Mo_tryOf (d + 1) 0 0 130 [(0, .ref 70), (1, .int v1), (2, .int v2), (3, .int v3), (4, .int (v4 + 1))] [] (85, I, J, R) 0 0) ∧ (¬ (I 83 ((3 * v2) + v4).toNatClampNeg) ≤ v3 → (vp_in ((3 * v2) + v4) 36 ∧ ow_AW ow_Y0 (ow_Z Q) M_Mo_tryOf (d + 1) 0 0 130 [(0, .ref 70), (1, .int v1), (2, .int v2), (3, .int (I 83 ((3 * v2) + v4).toNatClampNeg)), (4, .int (v4 + 1))] [] (85, I, J, R) 0 0))))))) : ow_AW ow_Y0 (ow_Z Q) M_Mo_tryOf (d + 1) 0 0 130 [(0, .ref 70), (1, .int v1), (2, .int v2), (3, .int v3), (4, .int v4)] [] (85, I, J, R) 0 0 := by
  refine ow_iload 4 rfl d_Mo_tryOf_130 ?_
  refine ow_iconst (v := 3) (by decide) d_Mo_tryOf_132 ?_
  refine ow_icmp_ge (tgt := 173) d_Mo_tryOf_133 (by decide) (fun c => ?_) (fun c => ?_)
  · replace T := T.1 c
    refine ow_iload_n 3 rfl d_Mo_tryOf_173 ?_
    refine ow_if_eq (tgt := 199) d_Mo_tryOf_174 (by decide) (fun c => ?_) (fun c => ?_)
    · replace T := T.1 c
      refine ow_iinc 2 (v := (v2 + 1)) (ls2 := [(2, .int (v2 + 1)), (0, .ref 70), (1, .int v1), (3, .int v3), (4, .int v4)]) d_Mo_tryOf_199 rfl rfl (by decide) rfl ?_
      refine ow_goto (tgt := 113) d_Mo_tryOf_202 (by decide) ?_
      refine ow_sub [1, 2, 0] rfl ?_
      exact T
    · replace T := T.2 c
      refine ow_iload_n 1 rfl d_Mo_tryOf_177 ?_
      refine ow_if_lt (tgt := 192) d_Mo_tryOf_178 (by decide) (fun c => ?_) (fun c => ?_)
      · replace T := T.1 c
        refine ow_iload_n 2 rfl d_Mo_tryOf_192 ?_
        refine ow_istore_n (ls2 := [(1, .int v2), (0, .ref 70), (2, .int v2), (3, .int v3), (4, .int v4)]) d_Mo_tryOf_193 (by decide) rfl ?_
        refine ow_aload_n 1 rfl d_Mo_tryOf_194 ?_
        refine ow_iload_n 3 rfl d_Mo_tryOf_195 ?_
        refine ow_pI 204 d_Mo_tryOf_196 rfl rfl (by decide) rfl rfl rfl ?_
        obtain ⟨I8, eI8⟩ : ∃ uu, uu = ow_u I 70 35 v3 := ⟨_, rfl⟩
        replace T := T I8 eI8
        rw [← eI8]
        refine ow_iinc 2 (v := (v2 + 1)) (ls2 := [(2, .int (v2 + 1)), (1, .int v2), (0, .ref 70), (3, .int v3), (4, .int v4)]) d_Mo_tryOf_199 rfl rfl (by decide) rfl ?_
        refine ow_goto (tgt := 113) d_Mo_tryOf_202 (by decide) ?_
        refine ow_sub [2, 1, 0] rfl ?_
        exact T
      · replace T := T.2 c
        refine ow_iload_n 3 rfl d_Mo_tryOf_181 ?_
        refine ow_aload_n 0 rfl d_Mo_tryOf_182 ?_
        refine ow_gI 204 d_Mo_tryOf_183 rfl rfl (by decide) rfl (Or.inl rfl) ?_
        refine ow_icmp_lt (tgt := 192) d_Mo_tryOf_186 (by decide) (fun c => ?_) (fun c => ?_)
        · replace T := T.1 c
          refine ow_iload_n 2 rfl d_Mo_tryOf_192 ?_
          refine ow_istore_n (ls2 := [(1, .int v2), (0, .ref 70), (2, .int v2), (3, .int v3), (4, .int v4)]) d_Mo_tryOf_193 (by decide) rfl ?_
          refine ow_aload_n 1 rfl d_Mo_tryOf_194 ?_
          refine ow_iload_n 3 rfl d_Mo_tryOf_195 ?_
          refine ow_pI 204 d_Mo_tryOf_196 rfl rfl (by decide) rfl rfl rfl ?_
          obtain ⟨I9, eI9⟩ : ∃ uu, uu = ow_u I 70 35 v3 := ⟨_, rfl⟩
          replace T := T I9 eI9
          rw [← eI9]
          refine ow_iinc 2 (v := (v2 + 1)) (ls2 := [(2, .int (v2 + 1)), (1, .int v2), (0, .ref 70), (3, .int v3), (4, .int v4)]) d_Mo_tryOf_199 rfl rfl (by decide) rfl ?_
          refine ow_goto (tgt := 113) d_Mo_tryOf_202 (by decide) ?_
          refine ow_sub [2, 1, 0] rfl ?_
          exact T
        · replace T := T.2 c
          refine ow_goto (tgt := 199) d_Mo_tryOf_189 (by decide) ?_
          refine ow_iinc 2 (v := (v2 + 1)) (ls2 := [(2, .int (v2 + 1)), (0, .ref 70), (1, .int v1), (3, .int v3), (4, .int v4)]) d_Mo_tryOf_199 rfl rfl (by decide) rfl ?_
          refine ow_goto (tgt := 113) d_Mo_tryOf_202 (by decide) ?_
          refine ow_sub [1, 2, 0] rfl ?_
          exact T
  · replace T := T.2 c
    refine ow_aload_n 0 rfl d_Mo_tryOf_136 ?_
    refine ow_gR (a := 83) 203 d_Mo_tryOf_137 rfl rfl (by decide) rfl ⟨rfl, hR 70 34 (by decide)⟩ ?_
    refine ow_iconst (v := 3) (by decide) d_Mo_tryOf_140 ?_
    refine ow_iload_n 2 rfl d_Mo_tryOf_141 ?_
    refine ow_imul d_Mo_tryOf_142 ?_
    refine ow_iload 4 rfl d_Mo_tryOf_143 ?_
    refine ow_iadd d_Mo_tryOf_145 ?_
    obtain ⟨cI, T⟩ := T
    refine ow_hiaload d_Mo_tryOf_146 (by decide) rfl rfl cI ?_
    refine ow_iload_n 3 rfl d_Mo_tryOf_147 ?_
    refine ow_icmp_le (tgt := 165) d_Mo_tryOf_148 (by decide) (fun c => ?_) (fun c => ?_)
    · replace T := T.1 c
      refine ow_iload_n 3 rfl d_Mo_tryOf_165 ?_
      refine ow_istore_n (ls2 := [(3, .int v3), (0, .ref 70), (1, .int v1), (2, .int v2), (4, .int v4)]) d_Mo_tryOf_166 (by decide) rfl ?_
      refine ow_iinc 4 (v := (v4 + 1)) (ls2 := [(4, .int (v4 + 1)), (3, .int v3), (0, .ref 70), (1, .int v1), (2, .int v2)]) d_Mo_tryOf_167 rfl rfl (by decide) rfl ?_
      refine ow_goto (tgt := 130) d_Mo_tryOf_170 (by decide) ?_
      refine ow_sub [2, 3, 4, 1, 0] rfl ?_
      exact T
    · replace T := T.2 c
      refine ow_aload_n 0 rfl d_Mo_tryOf_151 ?_
      refine ow_gR (a := 83) 203 d_Mo_tryOf_152 rfl rfl (by decide) rfl ⟨rfl, hR 70 34 (by decide)⟩ ?_
      refine ow_iconst (v := 3) (by decide) d_Mo_tryOf_155 ?_
      refine ow_iload_n 2 rfl d_Mo_tryOf_156 ?_
      refine ow_imul d_Mo_tryOf_157 ?_
      refine ow_iload 4 rfl d_Mo_tryOf_158 ?_
      refine ow_iadd d_Mo_tryOf_160 ?_
      obtain ⟨cI, T⟩ := T
      refine ow_hiaload d_Mo_tryOf_161 (by decide) rfl rfl cI ?_
      refine ow_goto (tgt := 166) d_Mo_tryOf_162 (by decide) ?_
      refine ow_istore_n (ls2 := [(3, .int (I 83 ((3 * v2) + v4).toNatClampNeg)), (0, .ref 70), (1, .int v1), (2, .int v2), (4, .int v4)]) d_Mo_tryOf_166 (by decide) rfl ?_
      refine ow_iinc 4 (v := (v4 + 1)) (ls2 := [(4, .int (v4 + 1)), (3, .int (I 83 ((3 * v2) + v4).toNatClampNeg)), (0, .ref 70), (1, .int v1), (2, .int v2)]) d_Mo_tryOf_167 rfl rfl (by decide) rfl ?_
      refine ow_goto (tgt := 130) d_Mo_tryOf_170 (by decide) ?_
      refine ow_sub [2, 3, 4, 1, 0] rfl ?_
      exact T
set_option maxRecDepth 4000 in
theorem t_Mo_tryOf {d : Nat} {I : Nat → Nat → Int32} {J : Nat → Nat → Int64} {R : Nat → Nat → Option Nat} {Q : Option Value → ow_H → Prop}   (hR : ow_RF R) (T : ow_AW ow_Y0 (ow_Z Q) M_Mo_tryOf (d + 1) 0 0 2 [(0, .ref 70), (1, .int 0)] [] (85, I, J, R) 0 0) : ow_AM M_Mo_tryOf (d + 1) [.ref 70] (85, I, J, R) Q := by
  refine ow_enter (by decide) (Nat.le_of_ble_eq_true rfl) ?_
  show ow_AW ow_Y0 (ow_Z Q) M_Mo_tryOf (d + 1) 0 0 0 [(0, .ref 70)] [] (85, I, J, R) 0 0
  refine ow_iconst (v := 0) (by decide) d_Mo_tryOf_0 ?_
  refine ow_istore_n (ls2 := [(1, .int 0), (0, .ref 70)]) d_Mo_tryOf_1 (by decide) rfl ?_
  refine ow_sub [1, 0] rfl ?_
  exact T
set_option maxRecDepth 4000 in
theorem t_Mo_tryLetter {d : Nat} {I : Nat → Nat → Int32} {J : Nat → Nat → Int64} {R : Nat → Nat → Option Nat} {Q : Option Value → ow_H → Prop}   (hR : ow_RF R) (T : (ow_AM M_Mo_good d [.ref 70] (85, I, J, R) (fun r h' => ∃ (I4 : Nat → Nat → Int32) (J4 : Nat → Nat → Int64) (R4 : Nat → Nat → Option Nat), r = none ∧ h' = (85, I4, J4, R4) ∧ ow_RF R4 ∧ (((I4 70 14) = 0 → (ow_AM M_Mo_no d [.ref 70, .int 1] (85, I4, J4, R4) (fun r h' => ∃ (r5 : Int32) (I5 : Nat → Nat → Int32) (J5 : Nat → Nat → Int64) (R5 : Nat → Nat → Option Nat), r = some (.int r5) ∧ h' = (85, I5, J5, R5) ∧ ow_RF R5 ∧ Q (some (.int r5)) (85, I5, J5, R5)))) ∧ (¬ (I4 70 14) = 0 → (ow_AM M_Mo_tryOf d [.ref 70] (85, I4, J4, R4) (fun r h' => ∃ (r6 : Int32) (I6 : Nat → Nat → Int32) (J6 : Nat → Nat → Int64) (R6 : Nat → Nat → Option Nat), r = some (.int r6) ∧ h' = (85, I6, J6, R6) ∧ ow_RF R6 ∧ Q (some (.int r6)) (85, I6, J6, R6)))))))) : ow_AM M_Mo_tryLetter (d + 1) [.ref 70] (85, I, J, R) Q := by
  refine ow_enter (by decide) (Nat.le_of_ble_eq_true rfl) ?_
  show ow_AW ow_Y0 (ow_Z Q) M_Mo_tryLetter (d + 1) 0 0 0 [(0, .ref 70)] [] (85, I, J, R) 0 0
  refine ow_aload_n 0 rfl d_Mo_tryLetter_0 ?_
  refine ow_callV (b := 70) (cq := 12) (As := []) (rest := []) (d2 := d) d_Mo_tryLetter_1 l_Mo_154 v_Mo_good (show 70 < 85 by decide) rfl (by decide) rfl (Nat.le_of_ble_eq_true rfl) (Nat.le_refl _) ⟨Nat.le_refl _, Nat.le_refl _⟩ (ow_mono T ?_)
  rintro r h' ⟨I4, J4, R4, rfl, rfl, hR4, T⟩
  show ow_AW ow_Y0 (ow_Z Q) M_Mo_tryLetter (d + 1) 0 0 4 [(0, .ref 70)] [] (85, I4, J4, R4) 0 0
  refine ow_aload_n 0 rfl d_Mo_tryLetter_4 ?_
  refine ow_gI 183 d_Mo_tryLetter_5 rfl rfl (by decide) rfl (Or.inr rfl) ?_
  refine ow_if_eq (tgt := 18) d_Mo_tryLetter_8 (by decide) (fun c => ?_) (fun c => ?_)
  · replace T := T.1 c
    refine ow_aload_n 0 rfl d_Mo_tryLetter_18 ?_
    refine ow_iconst (v := 1) (by decide) d_Mo_tryLetter_19 ?_
    refine ow_callV (b := 70) (cq := 12) (As := [.int 1]) (rest := []) (d2 := d) d_Mo_tryLetter_20 l_Mo_157 v_Mo_no (show 70 < 85 by decide) rfl (by decide) rfl (Nat.le_of_ble_eq_true rfl) (Nat.le_refl _) ⟨Nat.le_refl _, Nat.le_refl _⟩ (ow_mono T ?_)
    rintro r h' ⟨r5, I5, J5, R5, rfl, rfl, hR5, T⟩
    show ow_AW ow_Y0 (ow_Z Q) M_Mo_tryLetter (d + 1) 0 0 23 [(0, .ref 70)] [.int r5] (85, I5, J5, R5) 0 0
    exact ow_iret d_Mo_tryLetter_23 rfl T
  · replace T := T.2 c
    refine ow_aload_n 0 rfl d_Mo_tryLetter_11 ?_
    refine ow_callV (b := 70) (cq := 12) (As := []) (rest := []) (d2 := d) d_Mo_tryLetter_12 l_Mo_361 v_Mo_tryOf (show 70 < 85 by decide) rfl (by decide) rfl (Nat.le_of_ble_eq_true rfl) (Nat.le_refl _) ⟨Nat.le_refl _, Nat.le_refl _⟩ (ow_mono T ?_)
    rintro r h' ⟨r6, I6, J6, R6, rfl, rfl, hR6, T⟩
    show ow_AW ow_Y0 (ow_Z Q) M_Mo_tryLetter (d + 1) 0 0 15 [(0, .ref 70)] [.int r6] (85, I6, J6, R6) 0 0
    refine ow_goto (tgt := 23) d_Mo_tryLetter_15 (by decide) ?_
    exact ow_iret d_Mo_tryLetter_23 rfl T
set_option maxRecDepth 4000 in
theorem t_Mo_tryLeaves {d : Nat} {I : Nat → Nat → Int32} {J : Nat → Nat → Int64} {R : Nat → Nat → Option Nat} {Q : Option Value → ow_H → Prop}   (hR : ow_RF R) (T : (ow_AM M_Mo_good d [.ref 70] (85, I, J, R) (fun r h' => ∃ (I4 : Nat → Nat → Int32) (J4 : Nat → Nat → Int64) (R4 : Nat → Nat → Option Nat), r = none ∧ h' = (85, I4, J4, R4) ∧ ow_RF R4 ∧ ((¬ (I4 70 14) = 0 → (ow_AM M_Mo_tryOf d [.ref 70] (85, I4, J4, R4) (fun r h' => ∃ (r5 : Int32) (I5 : Nat → Nat → Int32) (J5 : Nat → Nat → Int64) (R5 : Nat → Nat → Option Nat), r = some (.int r5) ∧ h' = (85, I5, J5, R5) ∧ ow_RF R5 ∧ Q (some (.int (I5 70 35))) (85, I5, J5, R5)))) ∧ ((I4 70 14) = 0 → (ow_AM M_Mo_no d [.ref 70, .int 1] (85, I4, J4, R4) (fun r h' => ∃ (r6 : Int32) (I6 : Nat → Nat → Int32) (J6 : Nat → Nat → Int64) (R6 : Nat → Nat → Option Nat), r = some (.int r6) ∧ h' = (85, I6, J6, R6) ∧ ow_RF R6 ∧ Q (some (.int r6)) (85, I6, J6, R6)))))))) : ow_AM M_Mo_tryLeaves (d + 1) [.ref 70] (85, I, J, R) Q := by
  refine ow_enter (by decide) (Nat.le_of_ble_eq_true rfl) ?_
  show ow_AW ow_Y0 (ow_Z Q) M_Mo_tryLeaves (d + 1) 0 0 0 [(0, .ref 70)] [] (85, I, J, R) 0 0
  refine ow_aload_n 0 rfl d_Mo_tryLeaves_0 ?_
  refine ow_callV (b := 70) (cq := 12) (As := []) (rest := []) (d2 := d) d_Mo_tryLeaves_1 l_Mo_154 v_Mo_good (show 70 < 85 by decide) rfl (by decide) rfl (Nat.le_of_ble_eq_true rfl) (Nat.le_refl _) ⟨Nat.le_refl _, Nat.le_refl _⟩ (ow_mono T ?_)
  rintro r h' ⟨I4, J4, R4, rfl, rfl, hR4, T⟩
  show ow_AW ow_Y0 (ow_Z Q) M_Mo_tryLeaves (d + 1) 0 0 4 [(0, .ref 70)] [] (85, I4, J4, R4) 0 0
  refine ow_aload_n 0 rfl d_Mo_tryLeaves_4 ?_
  refine ow_gI 183 d_Mo_tryLeaves_5 rfl rfl (by decide) rfl (Or.inr rfl) ?_
  refine ow_if_ne (tgt := 17) d_Mo_tryLeaves_8 (by decide) (fun c => ?_) (fun c => ?_)
  · replace T := T.1 c
    refine ow_aload_n 0 rfl d_Mo_tryLeaves_17 ?_
    refine ow_callV (b := 70) (cq := 12) (As := []) (rest := []) (d2 := d) d_Mo_tryLeaves_18 l_Mo_361 v_Mo_tryOf (show 70 < 85 by decide) rfl (by decide) rfl (Nat.le_of_ble_eq_true rfl) (Nat.le_refl _) ⟨Nat.le_refl _, Nat.le_refl _⟩ (ow_mono T ?_)
    rintro r h' ⟨r5, I5, J5, R5, rfl, rfl, hR5, T⟩
    show ow_AW ow_Y0 (ow_Z Q) M_Mo_tryLeaves (d + 1) 0 0 21 [(0, .ref 70)] [.int r5] (85, I5, J5, R5) 0 0
    refine ow_pop rfl d_Mo_tryLeaves_21 ?_
    refine ow_aload_n 0 rfl d_Mo_tryLeaves_22 ?_
    refine ow_gI 204 d_Mo_tryLeaves_23 rfl rfl (by decide) rfl (Or.inl rfl) ?_
    exact ow_iret d_Mo_tryLeaves_26 rfl T
  · replace T := T.2 c
    refine ow_aload_n 0 rfl d_Mo_tryLeaves_11 ?_
    refine ow_iconst (v := 1) (by decide) d_Mo_tryLeaves_12 ?_
    refine ow_callV (b := 70) (cq := 12) (As := [.int 1]) (rest := []) (d2 := d) d_Mo_tryLeaves_13 l_Mo_157 v_Mo_no (show 70 < 85 by decide) rfl (by decide) rfl (Nat.le_of_ble_eq_true rfl) (Nat.le_refl _) ⟨Nat.le_refl _, Nat.le_refl _⟩ (ow_mono T ?_)
    rintro r h' ⟨r6, I6, J6, R6, rfl, rfl, hR6, T⟩
    show ow_AW ow_Y0 (ow_Z Q) M_Mo_tryLeaves (d + 1) 0 0 16 [(0, .ref 70)] [.int r6] (85, I6, J6, R6) 0 0
    exact ow_iret d_Mo_tryLeaves_16 rfl T
set_option maxRecDepth 4000 in
theorem t_Mo_judge {d : Nat} {I : Nat → Nat → Int32} {J : Nat → Nat → Int64} {R : Nat → Nat → Option Nat} {Q : Option Value → ow_H → Prop}   (hR : ow_RF R) (T : (ow_AM M_Mo_good d [.ref 70] (85, I, J, R) (fun r h' => ∃ (I4 : Nat → Nat → Int32) (J4 : Nat → Nat → Int64) (R4 : Nat → Nat → Option Nat), r = none ∧ h' = (85, I4, J4, R4) ∧ ow_RF R4 ∧ (((I4 70 14) = 0 → (ow_AM M_Mo_no d [.ref 70, .int 1] (85, I4, J4, R4) (fun r h' => ∃ (r5 : Int32) (I5 : Nat → Nat → Int32) (J5 : Nat → Nat → Int64) (R5 : Nat → Nat → Option Nat), r = some (.int r5) ∧ h' = (85, I5, J5, R5) ∧ ow_RF R5 ∧ Q (some (.int r5)) (85, I5, J5, R5)))) ∧ (¬ (I4 70 14) = 0 → (ow_AM M_Mo_wrongBy d [.ref 70, .int (-1)] (85, I4, J4, R4) (fun r h' => ∃ (r6 : Int32) (I6 : Nat → Nat → Int32) (J6 : Nat → Nat → Int64) (R6 : Nat → Nat → Option Nat), r = some (.int r6) ∧ h' = (85, I6, J6, R6) ∧ ow_RF R6 ∧ Q (some (.int r6)) (85, I6, J6, R6)))))))) : ow_AM M_Mo_judge (d + 1) [.ref 70] (85, I, J, R) Q := by
  refine ow_enter (by decide) (Nat.le_of_ble_eq_true rfl) ?_
  show ow_AW ow_Y0 (ow_Z Q) M_Mo_judge (d + 1) 0 0 0 [(0, .ref 70)] [] (85, I, J, R) 0 0
  refine ow_aload_n 0 rfl d_Mo_judge_0 ?_
  refine ow_callV (b := 70) (cq := 12) (As := []) (rest := []) (d2 := d) d_Mo_judge_1 l_Mo_154 v_Mo_good (show 70 < 85 by decide) rfl (by decide) rfl (Nat.le_of_ble_eq_true rfl) (Nat.le_refl _) ⟨Nat.le_refl _, Nat.le_refl _⟩ (ow_mono T ?_)
  rintro r h' ⟨I4, J4, R4, rfl, rfl, hR4, T⟩
  show ow_AW ow_Y0 (ow_Z Q) M_Mo_judge (d + 1) 0 0 4 [(0, .ref 70)] [] (85, I4, J4, R4) 0 0
  refine ow_aload_n 0 rfl d_Mo_judge_4 ?_
  refine ow_gI 183 d_Mo_judge_5 rfl rfl (by decide) rfl (Or.inr rfl) ?_
  refine ow_if_eq (tgt := 19) d_Mo_judge_8 (by decide) (fun c => ?_) (fun c => ?_)
  · replace T := T.1 c
    refine ow_aload_n 0 rfl d_Mo_judge_19 ?_
    refine ow_iconst (v := 1) (by decide) d_Mo_judge_20 ?_
    refine ow_callV (b := 70) (cq := 12) (As := [.int 1]) (rest := []) (d2 := d) d_Mo_judge_21 l_Mo_157 v_Mo_no (show 70 < 85 by decide) rfl (by decide) rfl (Nat.le_of_ble_eq_true rfl) (Nat.le_refl _) ⟨Nat.le_refl _, Nat.le_refl _⟩ (ow_mono T ?_)
    rintro r h' ⟨r5, I5, J5, R5, rfl, rfl, hR5, T⟩
    show ow_AW ow_Y0 (ow_Z Q) M_Mo_judge (d + 1) 0 0 24 [(0, .ref 70)] [.int r5] (85, I5, J5, R5) 0 0
    exact ow_iret d_Mo_judge_24 rfl T
  · replace T := T.2 c
    refine ow_aload_n 0 rfl d_Mo_judge_11 ?_
    refine ow_iconst (v := (-1)) (by decide) d_Mo_judge_12 ?_
    refine ow_callV (b := 70) (cq := 12) (As := [.int (-1)]) (rest := []) (d2 := d) d_Mo_judge_13 l_Mo_352 v_Mo_wrongBy (show 70 < 85 by decide) rfl (by decide) rfl (Nat.le_of_ble_eq_true rfl) (Nat.le_refl _) ⟨Nat.le_refl _, Nat.le_refl _⟩ (ow_mono T ?_)
    rintro r h' ⟨r6, I6, J6, R6, rfl, rfl, hR6, T⟩
    show ow_AW ow_Y0 (ow_Z Q) M_Mo_judge (d + 1) 0 0 16 [(0, .ref 70)] [.int r6] (85, I6, J6, R6) 0 0
    refine ow_goto (tgt := 24) d_Mo_judge_16 (by decide) ?_
    exact ow_iret d_Mo_judge_24 rfl T
set_option maxRecDepth 4000 in
theorem t_Mo_votesOf_4 {d : Nat} {I : Nat → Nat → Int32} {J : Nat → Nat → Int64} {R : Nat → Nat → Option Nat} {Q : Option Value → ow_H → Prop}  {v1 : Int32} {v2 : Int32} {v3 : Int32}  (hR : ow_RF R) (T : (((I 73 3) ≤ v3 → Q (some (.int v2)) (85, I, J, R)) ∧ (¬ (I 73 3) ≤ v3 → (ow_AM M_Mo_hasBit d [.int v1, .int v3] (85, I, J, R) (fun r h' => ∃ (r1 : Int32) (I1 : Nat → Nat → Int32) (J1 : Nat → Nat → Int64) (R1 : Nat → Nat → Option Nat), r = some (.int r1) ∧ h' = (85, I1, J1, R1) ∧ ow_RF R1 ∧ ((r1 = 0 → ow_AW ow_Y0 (ow_Z Q) M_Mo_votesOf (d + 1) 0 0 4 [(0, .ref 70), (1, .int v1), (2, .int (v2 + 0)), (3, .int (v3 + 1))] [] (85, I1, J1, R1) 0 0) ∧ (¬ r1 = 0 → (vp_in ((19 + (2 * v3)) + 1) 146 ∧ ow_AW ow_Y0 (ow_Z Q) M_Mo_votesOf (d + 1) 0 0 4 [(0, .ref 70), (1, .int v1), (2, .int (v2 + (I1 73 ((19 + (2 * v3)) + 1).toNatClampNeg))), (3, .int (v3 + 1))] [] (85, I1, J1, R1) 0 0)))))))) : ow_AW ow_Y0 (ow_Z Q) M_Mo_votesOf (d + 1) 0 0 4 [(0, .ref 70), (1, .int v1), (2, .int v2), (3, .int v3)] [] (85, I, J, R) 0 0 := by
  refine ow_iload_n 3 rfl d_Mo_votesOf_4 ?_
  refine ow_aload_n 0 rfl d_Mo_votesOf_5 ?_
  refine ow_gR (a := 73) 184 d_Mo_votesOf_6 rfl rfl (by decide) rfl ⟨rfl, hR 70 15 (by decide)⟩ ?_
  refine ow_iconst (v := 3) (by decide) d_Mo_votesOf_9 ?_
  refine ow_hiaload d_Mo_votesOf_10 (by decide) rfl rfl (show vp_in (3 : Int32) 146 by unfold vp_in; decide) ?_
  show ow_AW ow_Y0 (ow_Z Q) M_Mo_votesOf (d + 1) 0 0 11 [(0, .ref 70), (1, .int v1), (2, .int v2), (3, .int v3)] [.int (I 73 3), .int v3] (85, I, J, R) 0 0
  refine ow_icmp_ge (tgt := 48) d_Mo_votesOf_11 (by decide) (fun c => ?_) (fun c => ?_)
  · replace T := T.1 c
    refine ow_iload_n 2 rfl d_Mo_votesOf_48 ?_
    exact ow_iret d_Mo_votesOf_49 rfl T
  · replace T := T.2 c
    refine ow_iload_n 2 rfl d_Mo_votesOf_14 ?_
    refine ow_iload_n 1 rfl d_Mo_votesOf_15 ?_
    refine ow_iload_n 3 rfl d_Mo_votesOf_16 ?_
    refine ow_callS (As := [.int v1, .int v3]) (rest := [.int v2]) (d2 := d) d_Mo_votesOf_17 l_Mo_231 v_Mo_hasBit (Nat.le_of_ble_eq_true rfl) (Nat.le_refl _) ⟨Nat.le_refl _, Nat.le_refl _⟩ (ow_mono T ?_)
    rintro r h' ⟨r1, I1, J1, R1, rfl, rfl, hR1, T⟩
    show ow_AW ow_Y0 (ow_Z Q) M_Mo_votesOf (d + 1) 0 0 20 [(0, .ref 70), (1, .int v1), (2, .int v2), (3, .int v3)] [.int r1, .int v2] (85, I1, J1, R1) 0 0
    refine ow_if_eq (tgt := 39) d_Mo_votesOf_20 (by decide) (fun c => ?_) (fun c => ?_)
    · replace T := T.1 c
      refine ow_iconst (v := 0) (by decide) d_Mo_votesOf_39 ?_
      refine ow_iadd d_Mo_votesOf_40 ?_
      refine ow_istore_n (ls2 := [(2, .int (v2 + 0)), (0, .ref 70), (1, .int v1), (3, .int v3)]) d_Mo_votesOf_41 (by decide) rfl ?_
      refine ow_iinc 3 (v := (v3 + 1)) (ls2 := [(3, .int (v3 + 1)), (2, .int (v2 + 0)), (0, .ref 70), (1, .int v1)]) d_Mo_votesOf_42 rfl rfl (by decide) rfl ?_
      refine ow_goto (tgt := 4) d_Mo_votesOf_45 (by decide) ?_
      refine ow_sub [2, 3, 1, 0] rfl ?_
      exact T
    · replace T := T.2 c
      refine ow_aload_n 0 rfl d_Mo_votesOf_23 ?_
      refine ow_gR (a := 73) 184 d_Mo_votesOf_24 rfl rfl (by decide) rfl ⟨rfl, hR1 70 15 (by decide)⟩ ?_
      refine ow_bipush (v := 19) (by decide) d_Mo_votesOf_27 ?_
      refine ow_iconst (v := 2) (by decide) d_Mo_votesOf_29 ?_
      refine ow_iload_n 3 rfl d_Mo_votesOf_30 ?_
      refine ow_imul d_Mo_votesOf_31 ?_
      refine ow_iadd d_Mo_votesOf_32 ?_
      refine ow_iconst (v := 1) (by decide) d_Mo_votesOf_33 ?_
      refine ow_iadd d_Mo_votesOf_34 ?_
      obtain ⟨cI, T⟩ := T
      refine ow_hiaload d_Mo_votesOf_35 (by decide) rfl rfl cI ?_
      refine ow_goto (tgt := 40) d_Mo_votesOf_36 (by decide) ?_
      refine ow_iadd d_Mo_votesOf_40 ?_
      refine ow_istore_n (ls2 := [(2, .int (v2 + (I1 73 ((19 + (2 * v3)) + 1).toNatClampNeg))), (0, .ref 70), (1, .int v1), (3, .int v3)]) d_Mo_votesOf_41 (by decide) rfl ?_
      refine ow_iinc 3 (v := (v3 + 1)) (ls2 := [(3, .int (v3 + 1)), (2, .int (v2 + (I1 73 ((19 + (2 * v3)) + 1).toNatClampNeg))), (0, .ref 70), (1, .int v1)]) d_Mo_votesOf_42 rfl rfl (by decide) rfl ?_
      refine ow_goto (tgt := 4) d_Mo_votesOf_45 (by decide) ?_
      refine ow_sub [2, 3, 1, 0] rfl ?_
      exact T
set_option maxRecDepth 4000 in
theorem t_Mo_votesOf {d : Nat} {I : Nat → Nat → Int32} {J : Nat → Nat → Int64} {R : Nat → Nat → Option Nat} {Q : Option Value → ow_H → Prop} {p1 : Int32}  (hR : ow_RF R) (T : ow_AW ow_Y0 (ow_Z Q) M_Mo_votesOf (d + 1) 0 0 4 [(0, .ref 70), (1, .int p1), (2, .int 0), (3, .int 0)] [] (85, I, J, R) 0 0) : ow_AM M_Mo_votesOf (d + 1) [.ref 70, .int p1] (85, I, J, R) Q := by
  refine ow_enter (by decide) (Nat.le_of_ble_eq_true rfl) ?_
  show ow_AW ow_Y0 (ow_Z Q) M_Mo_votesOf (d + 1) 0 0 0 [(0, .ref 70), (1, .int p1)] [] (85, I, J, R) 0 0
  refine ow_iconst (v := 0) (by decide) d_Mo_votesOf_0 ?_
  refine ow_istore_n (ls2 := [(2, .int 0), (0, .ref 70), (1, .int p1)]) d_Mo_votesOf_1 (by decide) rfl ?_
  refine ow_iconst (v := 0) (by decide) d_Mo_votesOf_2 ?_
  refine ow_istore_n (ls2 := [(3, .int 0), (2, .int 0), (0, .ref 70), (1, .int p1)]) d_Mo_votesOf_3 (by decide) rfl ?_
  refine ow_sub [2, 3, 1, 0] rfl ?_
  exact T
set_option maxRecDepth 4000 in
theorem t_Mo_allEstates {d : Nat} {I : Nat → Nat → Int32} {J : Nat → Nat → Int64} {R : Nat → Nat → Option Nat} {Q : Option Value → ow_H → Prop}   (hR : ow_RF R) (T : Q (some (.int (((1 : Int32) <<< ((I 73 3) &&& 31)) - 1))) (85, I, J, R)) : ow_AM M_Mo_allEstates (d + 1) [.ref 70] (85, I, J, R) Q := by
  refine ow_enter (by decide) (Nat.le_of_ble_eq_true rfl) ?_
  show ow_AW ow_Y0 (ow_Z Q) M_Mo_allEstates (d + 1) 0 0 0 [(0, .ref 70)] [] (85, I, J, R) 0 0
  refine ow_iconst (v := 1) (by decide) d_Mo_allEstates_0 ?_
  refine ow_aload_n 0 rfl d_Mo_allEstates_1 ?_
  refine ow_gR (a := 73) 184 d_Mo_allEstates_2 rfl rfl (by decide) rfl ⟨rfl, hR 70 15 (by decide)⟩ ?_
  refine ow_iconst (v := 3) (by decide) d_Mo_allEstates_5 ?_
  refine ow_hiaload d_Mo_allEstates_6 (by decide) rfl rfl (show vp_in (3 : Int32) 146 by unfold vp_in; decide) ?_
  show ow_AW ow_Y0 (ow_Z Q) M_Mo_allEstates (d + 1) 0 0 7 [(0, .ref 70)] [.int (I 73 3), .int 1] (85, I, J, R) 0 0
  refine ow_ishl d_Mo_allEstates_7 ?_
  refine ow_iconst (v := 1) (by decide) d_Mo_allEstates_8 ?_
  refine ow_isub d_Mo_allEstates_9 ?_
  exact ow_iret d_Mo_allEstates_10 rfl T
set_option maxRecDepth 4000 in
theorem t_Mo_power_37 {d : Nat} {I : Nat → Nat → Int32} {J : Nat → Nat → Int64} {R : Nat → Nat → Option Nat} {Q : Option Value → ow_H → Prop}  {v1 : Int32} {v2 : Int32} {v3 : Int32} {v4 : Int32} {v5 : Int32} {v6 : Int32}  (hR : ow_RF R) (T : (ow_AM M_Mo_allEstates d [.ref 70] (85, I, J, R) (fun r h' => ∃ (r6 : Int32) (I6 : Nat → Nat → Int32) (J6 : Nat → Nat → Int64) (R6 : Nat → Nat → Option Nat), r = some (.int r6) ∧ h' = (85, I6, J6, R6) ∧ ow_RF R6 ∧ ((r6 < v6 → (ow_AM M_Mo_lowest d [.long (Int32.toInt64 v5), .long (Int32.toInt64 v4), .int v2] (85, I6, J6, R6) (fun r h' => ∃ (r7 : Int64) (I7 : Nat → Nat → Int32) (J7 : Nat → Nat → Int64) (R7 : Nat → Nat → Option Nat), r = some (.long r7) ∧ h' = (85, I7, J7, R7) ∧ ow_RF R7 ∧ Q (some (.long r7)) (85, I7, J7, R7)))) ∧ (¬ r6 < v6 → (ow_AM M_Mo_hasBit d [.int v6, .int v1] (85, I6, J6, R6) (fun r h' => ∃ (r8 : Int32) (I8 : Nat → Nat → Int32) (J8 : Nat → Nat → Int64) (R8 : Nat → Nat → Option Nat), r = some (.int r8) ∧ h' = (85, I8, J8, R8) ∧ ow_RF R8 ∧ ((r8 = 0 → (ow_AM M_Mo_votesOf d [.ref 70, .int v6] (85, I8, J8, R8) (fun r h' => ∃ (r9 : Int32) (I9 : Nat → Nat → Int32) (J9 : Nat → Nat → Int64) (R9 : Nat → Nat → Option Nat), r = some (.int r9) ∧ h' = (85, I9, J9, R9) ∧ ow_RF R9 ∧ ((v3 < (2 * r9) → ow_AW ow_Y0 (ow_Z Q) M_Mo_power (d + 1) 0 0 37 [(0, .ref 70), (1, .int v1), (2, .int v2), (3, .int v3), (4, .int (v4 + 1)), (5, .int (v5 + 0)), (6, .int (v6 + 1))] [] (85, I9, J9, R9) 0 0) ∧ (¬ v3 < (2 * r9) → (ow_AM M_Mo_votesOf d [.ref 70, .int (v6 ||| ((1 : Int32) <<< (v1 &&& 31)))] (85, I9, J9, R9) (fun r h' => ∃ (r10 : Int32) (I10 : Nat → Nat → Int32) (J10 : Nat → Nat → Int64) (R10 : Nat → Nat → Option Nat), r = some (.int r10) ∧ h' = (85, I10, J10, R10) ∧ ow_RF R10 ∧ (((2 * r10) ≤ v3 → ow_AW ow_Y0 (ow_Z Q) M_Mo_power (d + 1) 0 0 37 [(0, .ref 70), (1, .int v1), (2, .int v2), (3, .int v3), (4, .int (v4 + 1)), (5, .int (v5 + 0)), (6, .int (v6 + 1))] [] (85, I10, J10, R10) 0 0) ∧ (¬ (2 * r10) ≤ v3 → ow_AW ow_Y0 (ow_Z Q) M_Mo_power (d + 1) 0 0 37 [(0, .ref 70), (1, .int v1), (2, .int v2), (3, .int v3), (4, .int (v4 + 1)), (5, .int (v5 + 1)), (6, .int (v6 + 1))] [] (85, I10, J10, R10) 0 0))))))))) ∧ (¬ r8 = 0 → ow_AW ow_Y0 (ow_Z Q) M_Mo_power (d + 1) 0 0 37 [(0, .ref 70), (1, .int v1), (2, .int v2), (3, .int v3), (4, .int v4), (5, .int v5), (6, .int (v6 + 1))] [] (85, I8, J8, R8) 0 0))))))))) : ow_AW ow_Y0 (ow_Z Q) M_Mo_power (d + 1) 0 0 37 [(0, .ref 70), (1, .int v1), (2, .int v2), (3, .int v3), (4, .int v4), (5, .int v5), (6, .int v6)] [] (85, I, J, R) 0 0 := by
  refine ow_iload 6 rfl d_Mo_power_37 ?_
  refine ow_aload_n 0 rfl d_Mo_power_39 ?_
  refine ow_callV (b := 70) (cq := 12) (As := []) (rest := [.int v6]) (d2 := d) d_Mo_power_40 l_Mo_364 v_Mo_allEstates (show 70 < 85 by decide) rfl (by decide) rfl (Nat.le_of_ble_eq_true rfl) (Nat.le_refl _) ⟨Nat.le_refl _, Nat.le_refl _⟩ (ow_mono T ?_)
  rintro r h' ⟨r6, I6, J6, R6, rfl, rfl, hR6, T⟩
  show ow_AW ow_Y0 (ow_Z Q) M_Mo_power (d + 1) 0 0 43 [(0, .ref 70), (1, .int v1), (2, .int v2), (3, .int v3), (4, .int v4), (5, .int v5), (6, .int v6)] [.int r6, .int v6] (85, I6, J6, R6) 0 0
  refine ow_icmp_gt (tgt := 105) d_Mo_power_43 (by decide) (fun c => ?_) (fun c => ?_)
  · replace T := T.1 c
    refine ow_iload 5 rfl d_Mo_power_105 ?_
    refine ow_i2l d_Mo_power_107 ?_
    refine ow_iload 4 rfl d_Mo_power_108 ?_
    refine ow_i2l d_Mo_power_110 ?_
    refine ow_iload_n 2 rfl d_Mo_power_111 ?_
    refine ow_callS (As := [.long (Int32.toInt64 v5), .long (Int32.toInt64 v4), .int v2]) (rest := []) (d2 := d) d_Mo_power_112 l_Mo_370 v_Mo_lowest (Nat.le_of_ble_eq_true rfl) (Nat.le_refl _) ⟨Nat.le_refl _, Nat.le_refl _⟩ (ow_mono T ?_)
    rintro r h' ⟨r7, I7, J7, R7, rfl, rfl, hR7, T⟩
    show ow_AW ow_Y0 (ow_Z Q) M_Mo_power (d + 1) 0 0 115 [(0, .ref 70), (1, .int v1), (2, .int v2), (3, .int v3), (4, .int v4), (5, .int v5), (6, .int v6)] [.long r7] (85, I7, J7, R7) 0 0
    exact ow_lret d_Mo_power_115 rfl T
  · replace T := T.2 c
    refine ow_iload 6 rfl d_Mo_power_46 ?_
    refine ow_iload_n 1 rfl d_Mo_power_48 ?_
    refine ow_callS (As := [.int v6, .int v1]) (rest := []) (d2 := d) d_Mo_power_49 l_Mo_231 v_Mo_hasBit (Nat.le_of_ble_eq_true rfl) (Nat.le_refl _) ⟨Nat.le_refl _, Nat.le_refl _⟩ (ow_mono T ?_)
    rintro r h' ⟨r8, I8, J8, R8, rfl, rfl, hR8, T⟩
    show ow_AW ow_Y0 (ow_Z Q) M_Mo_power (d + 1) 0 0 52 [(0, .ref 70), (1, .int v1), (2, .int v2), (3, .int v3), (4, .int v4), (5, .int v5), (6, .int v6)] [.int r8] (85, I8, J8, R8) 0 0
    refine ow_if_eq (tgt := 58) d_Mo_power_52 (by decide) (fun c => ?_) (fun c => ?_)
    · replace T := T.1 c
      refine ow_iinc 4 (v := (v4 + 1)) (ls2 := [(4, .int (v4 + 1)), (0, .ref 70), (1, .int v1), (2, .int v2), (3, .int v3), (5, .int v5), (6, .int v6)]) d_Mo_power_58 rfl rfl (by decide) rfl ?_
      refine ow_iload 5 rfl d_Mo_power_61 ?_
      refine ow_iconst (v := 2) (by decide) d_Mo_power_63 ?_
      refine ow_aload_n 1 rfl d_Mo_power_64 ?_
      refine ow_iload 6 rfl d_Mo_power_65 ?_
      refine ow_callV (b := 70) (cq := 12) (As := [.int v6]) (rest := [.int 2, .int v5]) (d2 := d) d_Mo_power_67 l_Mo_367 v_Mo_votesOf (show 70 < 85 by decide) rfl (by decide) rfl (Nat.le_of_ble_eq_true rfl) (Nat.le_refl _) ⟨Nat.le_refl _, Nat.le_refl _⟩ (ow_mono T ?_)
      rintro r h' ⟨r9, I9, J9, R9, rfl, rfl, hR9, T⟩
      show ow_AW ow_Y0 (ow_Z Q) M_Mo_power (d + 1) 0 0 70 [(4, .int (v4 + 1)), (0, .ref 70), (1, .int v1), (2, .int v2), (3, .int v3), (5, .int v5), (6, .int v6)] [.int r9, .int 2, .int v5] (85, I9, J9, R9) 0 0
      refine ow_imul d_Mo_power_70 ?_
      refine ow_iload_n 4 rfl d_Mo_power_71 ?_
      refine ow_icmp_gt (tgt := 95) d_Mo_power_72 (by decide) (fun c => ?_) (fun c => ?_)
      · replace T := T.1 c
        refine ow_iconst (v := 0) (by decide) d_Mo_power_95 ?_
        refine ow_iadd d_Mo_power_96 ?_
        refine ow_istore (ls2 := [(5, .int (v5 + 0)), (4, .int (v4 + 1)), (0, .ref 70), (1, .int v1), (2, .int v2), (3, .int v3), (6, .int v6)]) d_Mo_power_97 (by decide) rfl ?_
        refine ow_iinc 6 (v := (v6 + 1)) (ls2 := [(6, .int (v6 + 1)), (5, .int (v5 + 0)), (4, .int (v4 + 1)), (0, .ref 70), (1, .int v1), (2, .int v2), (3, .int v3)]) d_Mo_power_99 rfl rfl (by decide) rfl ?_
        refine ow_goto (tgt := 37) d_Mo_power_102 (by decide) ?_
        refine ow_sub [3, 4, 5, 6, 2, 1, 0] rfl ?_
        exact T
      · replace T := T.2 c
        refine ow_iconst (v := 2) (by decide) d_Mo_power_75 ?_
        refine ow_aload_n 1 rfl d_Mo_power_76 ?_
        refine ow_iload 6 rfl d_Mo_power_77 ?_
        refine ow_iconst (v := 1) (by decide) d_Mo_power_79 ?_
        refine ow_iload_n 2 rfl d_Mo_power_80 ?_
        refine ow_ishl d_Mo_power_81 ?_
        refine ow_ior d_Mo_power_82 ?_
        refine ow_callV (b := 70) (cq := 12) (As := [.int (v6 ||| ((1 : Int32) <<< (v1 &&& 31)))]) (rest := [.int 2, .int v5]) (d2 := d) d_Mo_power_83 l_Mo_367 v_Mo_votesOf (show 70 < 85 by decide) rfl (by decide) rfl (Nat.le_of_ble_eq_true rfl) (Nat.le_refl _) ⟨Nat.le_refl _, Nat.le_refl _⟩ (ow_mono T ?_)
        rintro r h' ⟨r10, I10, J10, R10, rfl, rfl, hR10, T⟩
        show ow_AW ow_Y0 (ow_Z Q) M_Mo_power (d + 1) 0 0 86 [(4, .int (v4 + 1)), (0, .ref 70), (1, .int v1), (2, .int v2), (3, .int v3), (5, .int v5), (6, .int v6)] [.int r10, .int 2, .int v5] (85, I10, J10, R10) 0 0
        refine ow_imul d_Mo_power_86 ?_
        refine ow_iload_n 4 rfl d_Mo_power_87 ?_
        refine ow_icmp_le (tgt := 95) d_Mo_power_88 (by decide) (fun c => ?_) (fun c => ?_)
        · replace T := T.1 c
          refine ow_iconst (v := 0) (by decide) d_Mo_power_95 ?_
          refine ow_iadd d_Mo_power_96 ?_
          refine ow_istore (ls2 := [(5, .int (v5 + 0)), (4, .int (v4 + 1)), (0, .ref 70), (1, .int v1), (2, .int v2), (3, .int v3), (6, .int v6)]) d_Mo_power_97 (by decide) rfl ?_
          refine ow_iinc 6 (v := (v6 + 1)) (ls2 := [(6, .int (v6 + 1)), (5, .int (v5 + 0)), (4, .int (v4 + 1)), (0, .ref 70), (1, .int v1), (2, .int v2), (3, .int v3)]) d_Mo_power_99 rfl rfl (by decide) rfl ?_
          refine ow_goto (tgt := 37) d_Mo_power_102 (by decide) ?_
          refine ow_sub [3, 4, 5, 6, 2, 1, 0] rfl ?_
          exact T
        · replace T := T.2 c
          refine ow_iconst (v := 1) (by decide) d_Mo_power_91 ?_
          refine ow_goto (tgt := 96) d_Mo_power_92 (by decide) ?_
          refine ow_iadd d_Mo_power_96 ?_
          refine ow_istore (ls2 := [(5, .int (v5 + 1)), (4, .int (v4 + 1)), (0, .ref 70), (1, .int v1), (2, .int v2), (3, .int v3), (6, .int v6)]) d_Mo_power_97 (by decide) rfl ?_
          refine ow_iinc 6 (v := (v6 + 1)) (ls2 := [(6, .int (v6 + 1)), (5, .int (v5 + 1)), (4, .int (v4 + 1)), (0, .ref 70), (1, .int v1), (2, .int v2), (3, .int v3)]) d_Mo_power_99 rfl rfl (by decide) rfl ?_
          refine ow_goto (tgt := 37) d_Mo_power_102 (by decide) ?_
          refine ow_sub [3, 4, 5, 6, 2, 1, 0] rfl ?_
          exact T
    · replace T := T.2 c
      refine ow_goto (tgt := 99) d_Mo_power_55 (by decide) ?_
      refine ow_iinc 6 (v := (v6 + 1)) (ls2 := [(6, .int (v6 + 1)), (0, .ref 70), (1, .int v1), (2, .int v2), (3, .int v3), (4, .int v4), (5, .int v5)]) d_Mo_power_99 rfl rfl (by decide) rfl ?_
      refine ow_goto (tgt := 37) d_Mo_power_102 (by decide) ?_
      refine ow_sub [1, 2, 3, 4, 5, 6, 0] rfl ?_
      exact T
set_option maxRecDepth 4000 in
theorem t_Mo_power {d : Nat} {I : Nat → Nat → Int32} {J : Nat → Nat → Int64} {R : Nat → Nat → Option Nat} {Q : Option Value → ow_H → Prop} {p1 : Int32} {p2 : Int32}  (hR : ow_RF R) (T : (ow_AM M_Mo_good d [.ref 70] (85, I, J, R) (fun r h' => ∃ (I11 : Nat → Nat → Int32) (J11 : Nat → Nat → Int64) (R11 : Nat → Nat → Option Nat), r = none ∧ h' = (85, I11, J11, R11) ∧ ow_RF R11 ∧ (ow_AM M_Mo_isEstate d [.ref 70, .int p1] (85, I11, J11, R11) (fun r h' => ∃ (r12 : Int32) (I12 : Nat → Nat → Int32) (J12 : Nat → Nat → Int64) (R12 : Nat → Nat → Option Nat), r = some (.int r12) ∧ h' = (85, I12, J12, R12) ∧ ow_RF R12 ∧ ((¬ r12 = 0 → (ow_AM M_Mo_allEstates d [.ref 70] (85, I12, J12, R12) (fun r h' => ∃ (r13 : Int32) (I13 : Nat → Nat → Int32) (J13 : Nat → Nat → Int64) (R13 : Nat → Nat → Option Nat), r = some (.int r13) ∧ h' = (85, I13, J13, R13) ∧ ow_RF R13 ∧ (ow_AM M_Mo_votesOf d [.ref 70, .int r13] (85, I13, J13, R13) (fun r h' => ∃ (r14 : Int32) (I14 : Nat → Nat → Int32) (J14 : Nat → Nat → Int64) (R14 : Nat → Nat → Option Nat), r = some (.int r14) ∧ h' = (85, I14, J14, R14) ∧ ow_RF R14 ∧ ow_AW ow_Y0 (ow_Z Q) M_Mo_power (d + 1) 0 0 37 [(0, .ref 70), (1, .int p1), (2, .int p2), (3, .int r14), (4, .int 0), (5, .int 0), (6, .int 0)] [] (85, I14, J14, R14) 0 0))))) ∧ (r12 = 0 → (ow_AM M_Mo_no d [.ref 70, .int 1] (85, I12, J12, R12) (fun r h' => ∃ (r15 : Int32) (I15 : Nat → Nat → Int32) (J15 : Nat → Nat → Int64) (R15 : Nat → Nat → Option Nat), r = some (.int r15) ∧ h' = (85, I15, J15, R15) ∧ ow_RF R15 ∧ Q (some (.long (Int32.toInt64 r15))) (85, I15, J15, R15)))))))))) : ow_AM M_Mo_power (d + 1) [.ref 70, .int p1, .int p2] (85, I, J, R) Q := by
  refine ow_enter (by decide) (Nat.le_of_ble_eq_true rfl) ?_
  show ow_AW ow_Y0 (ow_Z Q) M_Mo_power (d + 1) 0 0 0 [(0, .ref 70), (1, .int p1), (2, .int p2)] [] (85, I, J, R) 0 0
  refine ow_aload_n 0 rfl d_Mo_power_0 ?_
  refine ow_callV (b := 70) (cq := 12) (As := []) (rest := []) (d2 := d) d_Mo_power_1 l_Mo_154 v_Mo_good (show 70 < 85 by decide) rfl (by decide) rfl (Nat.le_of_ble_eq_true rfl) (Nat.le_refl _) ⟨Nat.le_refl _, Nat.le_refl _⟩ (ow_mono T ?_)
  rintro r h' ⟨I11, J11, R11, rfl, rfl, hR11, T⟩
  show ow_AW ow_Y0 (ow_Z Q) M_Mo_power (d + 1) 0 0 4 [(0, .ref 70), (1, .int p1), (2, .int p2)] [] (85, I11, J11, R11) 0 0
  refine ow_aload_n 0 rfl d_Mo_power_4 ?_
  refine ow_iload_n 1 rfl d_Mo_power_5 ?_
  refine ow_callV (b := 70) (cq := 12) (As := [.int p1]) (rest := []) (d2 := d) d_Mo_power_6 l_Mo_278 v_Mo_isEstate (show 70 < 85 by decide) rfl (by decide) rfl (Nat.le_of_ble_eq_true rfl) (Nat.le_refl _) ⟨Nat.le_refl _, Nat.le_refl _⟩ (ow_mono T ?_)
  rintro r h' ⟨r12, I12, J12, R12, rfl, rfl, hR12, T⟩
  show ow_AW ow_Y0 (ow_Z Q) M_Mo_power (d + 1) 0 0 9 [(0, .ref 70), (1, .int p1), (2, .int p2)] [.int r12] (85, I12, J12, R12) 0 0
  refine ow_if_ne (tgt := 19) d_Mo_power_9 (by decide) (fun c => ?_) (fun c => ?_)
  · replace T := T.1 c
    refine ow_aload_n 0 rfl d_Mo_power_19 ?_
    refine ow_aload_n 0 rfl d_Mo_power_20 ?_
    refine ow_callV (b := 70) (cq := 12) (As := []) (rest := [.ref 70]) (d2 := d) d_Mo_power_21 l_Mo_364 v_Mo_allEstates (show 70 < 85 by decide) rfl (by decide) rfl (Nat.le_of_ble_eq_true rfl) (Nat.le_refl _) ⟨Nat.le_refl _, Nat.le_refl _⟩ (ow_mono T ?_)
    rintro r h' ⟨r13, I13, J13, R13, rfl, rfl, hR13, T⟩
    show ow_AW ow_Y0 (ow_Z Q) M_Mo_power (d + 1) 0 0 24 [(0, .ref 70), (1, .int p1), (2, .int p2)] [.int r13, .ref 70] (85, I13, J13, R13) 0 0
    refine ow_callV (b := 70) (cq := 12) (As := [.int r13]) (rest := []) (d2 := d) d_Mo_power_24 l_Mo_367 v_Mo_votesOf (show 70 < 85 by decide) rfl (by decide) rfl (Nat.le_of_ble_eq_true rfl) (Nat.le_refl _) ⟨Nat.le_refl _, Nat.le_refl _⟩ (ow_mono T ?_)
    rintro r h' ⟨r14, I14, J14, R14, rfl, rfl, hR14, T⟩
    show ow_AW ow_Y0 (ow_Z Q) M_Mo_power (d + 1) 0 0 27 [(0, .ref 70), (1, .int p1), (2, .int p2)] [.int r14] (85, I14, J14, R14) 0 0
    refine ow_istore_n (ls2 := [(3, .int r14), (0, .ref 70), (1, .int p1), (2, .int p2)]) d_Mo_power_27 (by decide) rfl ?_
    refine ow_iconst (v := 0) (by decide) d_Mo_power_28 ?_
    refine ow_istore (ls2 := [(4, .int 0), (3, .int r14), (0, .ref 70), (1, .int p1), (2, .int p2)]) d_Mo_power_29 (by decide) rfl ?_
    refine ow_iconst (v := 0) (by decide) d_Mo_power_31 ?_
    refine ow_istore (ls2 := [(5, .int 0), (4, .int 0), (3, .int r14), (0, .ref 70), (1, .int p1), (2, .int p2)]) d_Mo_power_32 (by decide) rfl ?_
    refine ow_iconst (v := 0) (by decide) d_Mo_power_34 ?_
    refine ow_istore (ls2 := [(6, .int 0), (5, .int 0), (4, .int 0), (3, .int r14), (0, .ref 70), (1, .int p1), (2, .int p2)]) d_Mo_power_35 (by decide) rfl ?_
    refine ow_sub [4, 5, 6, 3, 2, 1, 0] rfl ?_
    exact T
  · replace T := T.2 c
    refine ow_aload_n 0 rfl d_Mo_power_12 ?_
    refine ow_iconst (v := 1) (by decide) d_Mo_power_13 ?_
    refine ow_callV (b := 70) (cq := 12) (As := [.int 1]) (rest := []) (d2 := d) d_Mo_power_14 l_Mo_157 v_Mo_no (show 70 < 85 by decide) rfl (by decide) rfl (Nat.le_of_ble_eq_true rfl) (Nat.le_refl _) ⟨Nat.le_refl _, Nat.le_refl _⟩ (ow_mono T ?_)
    rintro r h' ⟨r15, I15, J15, R15, rfl, rfl, hR15, T⟩
    show ow_AW ow_Y0 (ow_Z Q) M_Mo_power (d + 1) 0 0 17 [(0, .ref 70), (1, .int p1), (2, .int p2)] [.int r15] (85, I15, J15, R15) 0 0
    refine ow_i2l d_Mo_power_17 ?_
    exact ow_lret d_Mo_power_18 rfl T
set_option maxRecDepth 4000 in
theorem t_Mo_rule_22 {d : Nat} {I : Nat → Nat → Int32} {J : Nat → Nat → Int64} {R : Nat → Nat → Option Nat} {Q : Option Value → ow_H → Prop}  {v1 : Int32} {v2 : Int32}  (hR : ow_RF R) (T : (ow_AM M_Mo_allEstates d [.ref 70] (85, I, J, R) (fun r h' => ∃ (r3 : Int32) (I3 : Nat → Nat → Int32) (J3 : Nat → Nat → Int64) (R3 : Nat → Nat → Option Nat), r = some (.int r3) ∧ h' = (85, I3, J3, R3) ∧ ow_RF R3 ∧ ((r3 < v2 → Q (some (.int v1)) (85, I3, J3, R3)) ∧ (¬ r3 < v2 → (ow_AM M_Mo_votesOf d [.ref 70, .int v2] (85, I3, J3, R3) (fun r h' => ∃ (r4 : Int32) (I4 : Nat → Nat → Int32) (J4 : Nat → Nat → Int64) (R4 : Nat → Nat → Option Nat), r = some (.int r4) ∧ h' = (85, I4, J4, R4) ∧ ow_RF R4 ∧ (ow_AM M_Mo_allEstates d [.ref 70] (85, I4, J4, R4) (fun r h' => ∃ (r5 : Int32) (I5 : Nat → Nat → Int32) (J5 : Nat → Nat → Int64) (R5 : Nat → Nat → Option Nat), r = some (.int r5) ∧ h' = (85, I5, J5, R5) ∧ ow_RF R5 ∧ (ow_AM M_Mo_votesOf d [.ref 70, .int r5] (85, I5, J5, R5) (fun r h' => ∃ (r6 : Int32) (I6 : Nat → Nat → Int32) (J6 : Nat → Nat → Int64) (R6 : Nat → Nat → Option Nat), r = some (.int r6) ∧ h' = (85, I6, J6, R6) ∧ ow_RF R6 ∧ (((2 * r4) ≤ r6 → ow_AW ow_Y0 (ow_Z Q) M_Mo_rule (d + 1) 0 0 22 [(0, .ref 70), (1, .int v1), (2, .int (v2 + 1))] [] (85, I6, J6, R6) 0 0) ∧ (¬ (2 * r4) ≤ r6 → ((v1 < 0 → ow_AW ow_Y0 (ow_Z Q) M_Mo_rule (d + 1) 0 0 22 [(0, .ref 70), (1, .int v2), (2, .int (v2 + 1))] [] (85, I6, J6, R6) 0 0) ∧ (¬ v1 < 0 → (ow_AM M_Mo_ones d [.int v2] (85, I6, J6, R6) (fun r h' => ∃ (r7 : Int32) (I7 : Nat → Nat → Int32) (J7 : Nat → Nat → Int64) (R7 : Nat → Nat → Option Nat), r = some (.int r7) ∧ h' = (85, I7, J7, R7) ∧ ow_RF R7 ∧ (ow_AM M_Mo_ones d [.int v1] (85, I7, J7, R7) (fun r h' => ∃ (r8 : Int32) (I8 : Nat → Nat → Int32) (J8 : Nat → Nat → Int64) (R8 : Nat → Nat → Option Nat), r = some (.int r8) ∧ h' = (85, I8, J8, R8) ∧ ow_RF R8 ∧ ((r8 ≤ r7 → ow_AW ow_Y0 (ow_Z Q) M_Mo_rule (d + 1) 0 0 22 [(0, .ref 70), (1, .int v1), (2, .int (v2 + 1))] [] (85, I8, J8, R8) 0 0) ∧ (¬ r8 ≤ r7 → ow_AW ow_Y0 (ow_Z Q) M_Mo_rule (d + 1) 0 0 22 [(0, .ref 70), (1, .int v2), (2, .int (v2 + 1))] [] (85, I8, J8, R8) 0 0))))))))))))))))))))) : ow_AW ow_Y0 (ow_Z Q) M_Mo_rule (d + 1) 0 0 22 [(0, .ref 70), (1, .int v1), (2, .int v2)] [] (85, I, J, R) 0 0 := by
  refine ow_iload_n 2 rfl d_Mo_rule_22 ?_
  refine ow_aload_n 0 rfl d_Mo_rule_23 ?_
  refine ow_callV (b := 70) (cq := 12) (As := []) (rest := [.int v2]) (d2 := d) d_Mo_rule_24 l_Mo_364 v_Mo_allEstates (show 70 < 85 by decide) rfl (by decide) rfl (Nat.le_of_ble_eq_true rfl) (Nat.le_refl _) ⟨Nat.le_refl _, Nat.le_refl _⟩ (ow_mono T ?_)
  rintro r h' ⟨r3, I3, J3, R3, rfl, rfl, hR3, T⟩
  show ow_AW ow_Y0 (ow_Z Q) M_Mo_rule (d + 1) 0 0 27 [(0, .ref 70), (1, .int v1), (2, .int v2)] [.int r3, .int v2] (85, I3, J3, R3) 0 0
  refine ow_icmp_gt (tgt := 71) d_Mo_rule_27 (by decide) (fun c => ?_) (fun c => ?_)
  · replace T := T.1 c
    refine ow_iload_n 1 rfl d_Mo_rule_71 ?_
    exact ow_iret d_Mo_rule_72 rfl T
  · replace T := T.2 c
    refine ow_iconst (v := 2) (by decide) d_Mo_rule_30 ?_
    refine ow_aload_n 0 rfl d_Mo_rule_31 ?_
    refine ow_iload_n 2 rfl d_Mo_rule_32 ?_
    refine ow_callV (b := 70) (cq := 12) (As := [.int v2]) (rest := [.int 2]) (d2 := d) d_Mo_rule_33 l_Mo_367 v_Mo_votesOf (show 70 < 85 by decide) rfl (by decide) rfl (Nat.le_of_ble_eq_true rfl) (Nat.le_refl _) ⟨Nat.le_refl _, Nat.le_refl _⟩ (ow_mono T ?_)
    rintro r h' ⟨r4, I4, J4, R4, rfl, rfl, hR4, T⟩
    show ow_AW ow_Y0 (ow_Z Q) M_Mo_rule (d + 1) 0 0 36 [(0, .ref 70), (1, .int v1), (2, .int v2)] [.int r4, .int 2] (85, I4, J4, R4) 0 0
    refine ow_imul d_Mo_rule_36 ?_
    refine ow_aload_n 0 rfl d_Mo_rule_37 ?_
    refine ow_aload_n 0 rfl d_Mo_rule_38 ?_
    refine ow_callV (b := 70) (cq := 12) (As := []) (rest := [.ref 70, .int (2 * r4)]) (d2 := d) d_Mo_rule_39 l_Mo_364 v_Mo_allEstates (show 70 < 85 by decide) rfl (by decide) rfl (Nat.le_of_ble_eq_true rfl) (Nat.le_refl _) ⟨Nat.le_refl _, Nat.le_refl _⟩ (ow_mono T ?_)
    rintro r h' ⟨r5, I5, J5, R5, rfl, rfl, hR5, T⟩
    show ow_AW ow_Y0 (ow_Z Q) M_Mo_rule (d + 1) 0 0 42 [(0, .ref 70), (1, .int v1), (2, .int v2)] [.int r5, .ref 70, .int (2 * r4)] (85, I5, J5, R5) 0 0
    refine ow_callV (b := 70) (cq := 12) (As := [.int r5]) (rest := [.int (2 * r4)]) (d2 := d) d_Mo_rule_42 l_Mo_367 v_Mo_votesOf (show 70 < 85 by decide) rfl (by decide) rfl (Nat.le_of_ble_eq_true rfl) (Nat.le_refl _) ⟨Nat.le_refl _, Nat.le_refl _⟩ (ow_mono T ?_)
    rintro r h' ⟨r6, I6, J6, R6, rfl, rfl, hR6, T⟩
    show ow_AW ow_Y0 (ow_Z Q) M_Mo_rule (d + 1) 0 0 45 [(0, .ref 70), (1, .int v1), (2, .int v2)] [.int r6, .int (2 * r4)] (85, I6, J6, R6) 0 0
    refine ow_icmp_le (tgt := 65) d_Mo_rule_45 (by decide) (fun c => ?_) (fun c => ?_)
    · replace T := T.1 c
      refine ow_iinc 2 (v := (v2 + 1)) (ls2 := [(2, .int (v2 + 1)), (0, .ref 70), (1, .int v1)]) d_Mo_rule_65 rfl rfl (by decide) rfl ?_
      refine ow_goto (tgt := 22) d_Mo_rule_68 (by decide) ?_
      refine ow_sub [1, 2, 0] rfl ?_
      exact T
    · replace T := T.2 c
      refine ow_iload_n 1 rfl d_Mo_rule_48 ?_
      refine ow_if_lt (tgt := 63) d_Mo_rule_49 (by decide) (fun c => ?_) (fun c => ?_)
      · replace T := T.1 c
        refine ow_iload_n 2 rfl d_Mo_rule_63 ?_
        refine ow_istore_n (ls2 := [(1, .int v2), (0, .ref 70), (2, .int v2)]) d_Mo_rule_64 (by decide) rfl ?_
        refine ow_iinc 2 (v := (v2 + 1)) (ls2 := [(2, .int (v2 + 1)), (1, .int v2), (0, .ref 70)]) d_Mo_rule_65 rfl rfl (by decide) rfl ?_
        refine ow_goto (tgt := 22) d_Mo_rule_68 (by decide) ?_
        refine ow_sub [2, 1, 0] rfl ?_
        exact T
      · replace T := T.2 c
        refine ow_iload_n 2 rfl d_Mo_rule_52 ?_
        refine ow_callS (As := [.int v2]) (rest := []) (d2 := d) d_Mo_rule_53 l_Mo_307 v_Mo_ones (Nat.le_of_ble_eq_true rfl) (Nat.le_refl _) ⟨Nat.le_refl _, Nat.le_refl _⟩ (ow_mono T ?_)
        rintro r h' ⟨r7, I7, J7, R7, rfl, rfl, hR7, T⟩
        show ow_AW ow_Y0 (ow_Z Q) M_Mo_rule (d + 1) 0 0 56 [(0, .ref 70), (1, .int v1), (2, .int v2)] [.int r7] (85, I7, J7, R7) 0 0
        refine ow_iload_n 1 rfl d_Mo_rule_56 ?_
        refine ow_callS (As := [.int v1]) (rest := [.int r7]) (d2 := d) d_Mo_rule_57 l_Mo_307 v_Mo_ones (Nat.le_of_ble_eq_true rfl) (Nat.le_refl _) ⟨Nat.le_refl _, Nat.le_refl _⟩ (ow_mono T ?_)
        rintro r h' ⟨r8, I8, J8, R8, rfl, rfl, hR8, T⟩
        show ow_AW ow_Y0 (ow_Z Q) M_Mo_rule (d + 1) 0 0 60 [(0, .ref 70), (1, .int v1), (2, .int v2)] [.int r8, .int r7] (85, I8, J8, R8) 0 0
        refine ow_icmp_ge (tgt := 65) d_Mo_rule_60 (by decide) (fun c => ?_) (fun c => ?_)
        · replace T := T.1 c
          refine ow_iinc 2 (v := (v2 + 1)) (ls2 := [(2, .int (v2 + 1)), (0, .ref 70), (1, .int v1)]) d_Mo_rule_65 rfl rfl (by decide) rfl ?_
          refine ow_goto (tgt := 22) d_Mo_rule_68 (by decide) ?_
          refine ow_sub [1, 2, 0] rfl ?_
          exact T
        · replace T := T.2 c
          refine ow_iload_n 2 rfl d_Mo_rule_63 ?_
          refine ow_istore_n (ls2 := [(1, .int v2), (0, .ref 70), (2, .int v2)]) d_Mo_rule_64 (by decide) rfl ?_
          refine ow_iinc 2 (v := (v2 + 1)) (ls2 := [(2, .int (v2 + 1)), (1, .int v2), (0, .ref 70)]) d_Mo_rule_65 rfl rfl (by decide) rfl ?_
          refine ow_goto (tgt := 22) d_Mo_rule_68 (by decide) ?_
          refine ow_sub [2, 1, 0] rfl ?_
          exact T
set_option maxRecDepth 4000 in
theorem t_Mo_rule {d : Nat} {I : Nat → Nat → Int32} {J : Nat → Nat → Int64} {R : Nat → Nat → Option Nat} {Q : Option Value → ow_H → Prop}   (hR : ow_RF R) (T : (ow_AM M_Mo_good d [.ref 70] (85, I, J, R) (fun r h' => ∃ (I9 : Nat → Nat → Int32) (J9 : Nat → Nat → Int64) (R9 : Nat → Nat → Option Nat), r = none ∧ h' = (85, I9, J9, R9) ∧ ow_RF R9 ∧ ((¬ (I9 70 14) = 0 → ow_AW ow_Y0 (ow_Z Q) M_Mo_rule (d + 1) 0 0 22 [(0, .ref 70), (1, .int (-2)), (2, .int 0)] [] (85, I9, J9, R9) 0 0) ∧ ((I9 70 14) = 0 → (ow_AM M_Mo_no d [.ref 70, .int 1] (85, I9, J9, R9) (fun r h' => ∃ (r10 : Int32) (I10 : Nat → Nat → Int32) (J10 : Nat → Nat → Int64) (R10 : Nat → Nat → Option Nat), r = some (.int r10) ∧ h' = (85, I10, J10, R10) ∧ ow_RF R10 ∧ Q (some (.int r10)) (85, I10, J10, R10)))))))) : ow_AM M_Mo_rule (d + 1) [.ref 70] (85, I, J, R) Q := by
  refine ow_enter (by decide) (Nat.le_of_ble_eq_true rfl) ?_
  show ow_AW ow_Y0 (ow_Z Q) M_Mo_rule (d + 1) 0 0 0 [(0, .ref 70)] [] (85, I, J, R) 0 0
  refine ow_aload_n 0 rfl d_Mo_rule_0 ?_
  refine ow_callV (b := 70) (cq := 12) (As := []) (rest := []) (d2 := d) d_Mo_rule_1 l_Mo_154 v_Mo_good (show 70 < 85 by decide) rfl (by decide) rfl (Nat.le_of_ble_eq_true rfl) (Nat.le_refl _) ⟨Nat.le_refl _, Nat.le_refl _⟩ (ow_mono T ?_)
  rintro r h' ⟨I9, J9, R9, rfl, rfl, hR9, T⟩
  show ow_AW ow_Y0 (ow_Z Q) M_Mo_rule (d + 1) 0 0 4 [(0, .ref 70)] [] (85, I9, J9, R9) 0 0
  refine ow_aload_n 0 rfl d_Mo_rule_4 ?_
  refine ow_gI 183 d_Mo_rule_5 rfl rfl (by decide) rfl (Or.inr rfl) ?_
  refine ow_if_ne (tgt := 17) d_Mo_rule_8 (by decide) (fun c => ?_) (fun c => ?_)
  · replace T := T.1 c
    refine ow_bipush (v := (-2)) (by decide) d_Mo_rule_17 ?_
    refine ow_istore_n (ls2 := [(1, .int (-2)), (0, .ref 70)]) d_Mo_rule_19 (by decide) rfl ?_
    refine ow_iconst (v := 0) (by decide) d_Mo_rule_20 ?_
    refine ow_istore_n (ls2 := [(2, .int 0), (1, .int (-2)), (0, .ref 70)]) d_Mo_rule_21 (by decide) rfl ?_
    refine ow_sub [2, 1, 0] rfl ?_
    exact T
  · replace T := T.2 c
    refine ow_aload_n 0 rfl d_Mo_rule_11 ?_
    refine ow_iconst (v := 1) (by decide) d_Mo_rule_12 ?_
    refine ow_callV (b := 70) (cq := 12) (As := [.int 1]) (rest := []) (d2 := d) d_Mo_rule_13 l_Mo_157 v_Mo_no (show 70 < 85 by decide) rfl (by decide) rfl (Nat.le_of_ble_eq_true rfl) (Nat.le_refl _) ⟨Nat.le_refl _, Nat.le_refl _⟩ (ow_mono T ?_)
    rintro r h' ⟨r10, I10, J10, R10, rfl, rfl, hR10, T⟩
    show ow_AW ow_Y0 (ow_Z Q) M_Mo_rule (d + 1) 0 0 16 [(0, .ref 70)] [.int r10] (85, I10, J10, R10) 0 0
    exact ow_iret d_Mo_rule_16 rfl T
set_option maxRecDepth 4000 in
theorem t_Mo_suesOf {d : Nat} {I : Nat → Nat → Int32} {J : Nat → Nat → Int64} {R : Nat → Nat → Option Nat} {Q : Option Value → ow_H → Prop} {p1 : Int32} {p2 : Int32} {p3 : Int32}  (hR : ow_RF R) (T : ((p2 = 0 → ((p3 = 0 → Q (some (.int 2)) (85, I, J, R)) ∧ (¬ p3 = 0 → Q (some (.int (-p1))) (85, I, J, R)))) ∧ (¬ p2 = 0 → ((p3 = 0 → Q (some (.int 3)) (85, I, J, R)) ∧ (¬ p3 = 0 → Q (some (.int (1 - p1))) (85, I, J, R)))))) : ow_AM M_Mo_suesOf (d + 1) [.int p1, .int p2, .int p3] (85, I, J, R) Q := by
  refine ow_enter (by decide) (Nat.le_of_ble_eq_true rfl) ?_
  show ow_AW ow_Y0 (ow_Z Q) M_Mo_suesOf (d + 1) 0 0 0 [(0, .int p1), (1, .int p2), (2, .int p3)] [] (85, I, J, R) 0 0
  refine ow_iload_n 1 rfl d_Mo_suesOf_0 ?_
  refine ow_if_eq (tgt := 18) d_Mo_suesOf_1 (by decide) (fun c => ?_) (fun c => ?_)
  · replace T := T.1 c
    refine ow_iload_n 2 rfl d_Mo_suesOf_18 ?_
    refine ow_if_eq (tgt := 27) d_Mo_suesOf_19 (by decide) (fun c => ?_) (fun c => ?_)
    · replace T := T.1 c
      refine ow_iconst (v := 2) (by decide) d_Mo_suesOf_27 ?_
      exact ow_iret d_Mo_suesOf_28 rfl T
    · replace T := T.2 c
      refine ow_iload_n 0 rfl d_Mo_suesOf_22 ?_
      refine ow_ineg d_Mo_suesOf_23 ?_
      refine ow_goto (tgt := 28) d_Mo_suesOf_24 (by decide) ?_
      exact ow_iret d_Mo_suesOf_28 rfl T
  · replace T := T.2 c
    refine ow_iload_n 2 rfl d_Mo_suesOf_4 ?_
    refine ow_if_eq (tgt := 14) d_Mo_suesOf_5 (by decide) (fun c => ?_) (fun c => ?_)
    · replace T := T.1 c
      refine ow_iconst (v := 3) (by decide) d_Mo_suesOf_14 ?_
      refine ow_goto (tgt := 28) d_Mo_suesOf_15 (by decide) ?_
      exact ow_iret d_Mo_suesOf_28 rfl T
    · replace T := T.2 c
      refine ow_iconst (v := 1) (by decide) d_Mo_suesOf_8 ?_
      refine ow_iload_n 0 rfl d_Mo_suesOf_9 ?_
      refine ow_isub d_Mo_suesOf_10 ?_
      refine ow_goto (tgt := 28) d_Mo_suesOf_11 (by decide) ?_
      exact ow_iret d_Mo_suesOf_28 rfl T
set_option maxRecDepth 4000 in
theorem t_Mo_sues {d : Nat} {I : Nat → Nat → Int32} {J : Nat → Nat → Int64} {R : Nat → Nat → Option Nat} {Q : Option Value → ow_H → Prop} {p1 : Int32} {p2 : Int32} {p3 : Int32} {p4 : Int32}  (hR : ow_RF R) (T : (ow_AM M_Mo_good d [.ref 70] (85, I, J, R) (fun r h' => ∃ (I7 : Nat → Nat → Int32) (J7 : Nat → Nat → Int64) (R7 : Nat → Nat → Option Nat), r = none ∧ h' = (85, I7, J7, R7) ∧ ow_RF R7 ∧ (ow_AM M_Mo_in d [.int p1, .int 0, .int 9] (85, I7, J7, R7) (fun r h' => ∃ (r8 : Int32) (I8 : Nat → Nat → Int32) (J8 : Nat → Nat → Int64) (R8 : Nat → Nat → Option Nat), r = some (.int r8) ∧ h' = (85, I8, J8, R8) ∧ ow_RF R8 ∧ (ow_AM M_Mo_why d [.ref 70, .int (I7 70 14), .int r8] (85, I8, J8, R8) (fun r h' => ∃ (r9 : Int32) (I9 : Nat → Nat → Int32) (J9 : Nat → Nat → Int64) (R9 : Nat → Nat → Option Nat), r = some (.int r9) ∧ h' = (85, I9, J9, R9) ∧ ow_RF R9 ∧ ((¬ r9 = 0 → (∀ (I10 : Nat → Nat → Int32), I10 = ow_u I9 70 11 r9 → Q (some (.int (-100))) (85, I10, J9, R9))) ∧ (r9 = 0 → ((p4 = 0 → (ow_AM M_Mo_suesOf d [.int p1, .int p2, .int p3] (85, I9, J9, R9) (fun r h' => ∃ (r11 : Int32) (I11 : Nat → Nat → Int32) (J11 : Nat → Nat → Int64) (R11 : Nat → Nat → Option Nat), r = some (.int r11) ∧ h' = (85, I11, J11, R11) ∧ ow_RF R11 ∧ Q (some (.int r11)) (85, I11, J11, R11)))) ∧ (¬ p4 = 0 → (ow_AM M_Mo_suesOf d [.int p1, .int p3, .int p2] (85, I9, J9, R9) (fun r h' => ∃ (r12 : Int32) (I12 : Nat → Nat → Int32) (J12 : Nat → Nat → Int64) (R12 : Nat → Nat → Option Nat), r = some (.int r12) ∧ h' = (85, I12, J12, R12) ∧ ow_RF R12 ∧ Q (some (.int r12)) (85, I12, J12, R12)))))))))))))) : ow_AM M_Mo_sues (d + 1) [.ref 70, .int p1, .int p2, .int p3, .int p4] (85, I, J, R) Q := by
  refine ow_enter (by decide) (Nat.le_of_ble_eq_true rfl) ?_
  show ow_AW ow_Y0 (ow_Z Q) M_Mo_sues (d + 1) 0 0 0 [(0, .ref 70), (1, .int p1), (2, .int p2), (3, .int p3), (4, .int p4)] [] (85, I, J, R) 0 0
  refine ow_aload_n 0 rfl d_Mo_sues_0 ?_
  refine ow_callV (b := 70) (cq := 12) (As := []) (rest := []) (d2 := d) d_Mo_sues_1 l_Mo_154 v_Mo_good (show 70 < 85 by decide) rfl (by decide) rfl (Nat.le_of_ble_eq_true rfl) (Nat.le_refl _) ⟨Nat.le_refl _, Nat.le_refl _⟩ (ow_mono T ?_)
  rintro r h' ⟨I7, J7, R7, rfl, rfl, hR7, T⟩
  show ow_AW ow_Y0 (ow_Z Q) M_Mo_sues (d + 1) 0 0 4 [(0, .ref 70), (1, .int p1), (2, .int p2), (3, .int p3), (4, .int p4)] [] (85, I7, J7, R7) 0 0
  refine ow_aload_n 0 rfl d_Mo_sues_4 ?_
  refine ow_aload_n 0 rfl d_Mo_sues_5 ?_
  refine ow_gI 183 d_Mo_sues_6 rfl rfl (by decide) rfl (Or.inr rfl) ?_
  refine ow_iload_n 1 rfl d_Mo_sues_9 ?_
  refine ow_iconst (v := 0) (by decide) d_Mo_sues_10 ?_
  refine ow_bipush (v := 9) (by decide) d_Mo_sues_11 ?_
  refine ow_callS (As := [.int p1, .int 0, .int 9]) (rest := [.int (I7 70 14), .ref 70]) (d2 := d) d_Mo_sues_13 l_Mo_142 v_Mo_in (Nat.le_of_ble_eq_true rfl) (Nat.le_refl _) ⟨Nat.le_refl _, Nat.le_refl _⟩ (ow_mono T ?_)
  rintro r h' ⟨r8, I8, J8, R8, rfl, rfl, hR8, T⟩
  show ow_AW ow_Y0 (ow_Z Q) M_Mo_sues (d + 1) 0 0 16 [(0, .ref 70), (1, .int p1), (2, .int p2), (3, .int p3), (4, .int p4)] [.int r8, .int (I7 70 14), .ref 70] (85, I8, J8, R8) 0 0
  refine ow_callV (b := 70) (cq := 12) (As := [.int (I7 70 14), .int r8]) (rest := []) (d2 := d) d_Mo_sues_16 l_Mo_323 v_Mo_why (show 70 < 85 by decide) rfl (by decide) rfl (Nat.le_of_ble_eq_true rfl) (Nat.le_refl _) ⟨Nat.le_refl _, Nat.le_refl _⟩ (ow_mono T ?_)
  rintro r h' ⟨r9, I9, J9, R9, rfl, rfl, hR9, T⟩
  show ow_AW ow_Y0 (ow_Z Q) M_Mo_sues (d + 1) 0 0 19 [(0, .ref 70), (1, .int p1), (2, .int p2), (3, .int p3), (4, .int p4)] [.int r9] (85, I9, J9, R9) 0 0
  refine ow_istore (ls2 := [(5, .int r9), (0, .ref 70), (1, .int p1), (2, .int p2), (3, .int p3), (4, .int p4)]) d_Mo_sues_19 (by decide) rfl ?_
  refine ow_iload 0 rfl d_Mo_sues_21 ?_
  refine ow_if_ne (tgt := 47) d_Mo_sues_23 (by decide) (fun c => ?_) (fun c => ?_)
  · replace T := T.1 c
    refine ow_aload_n 1 rfl d_Mo_sues_47 ?_
    refine ow_iload 0 rfl d_Mo_sues_48 ?_
    refine ow_pI 180 d_Mo_sues_50 rfl rfl (by decide) rfl rfl rfl ?_
    obtain ⟨I10, eI10⟩ : ∃ uu, uu = ow_u I9 70 11 r9 := ⟨_, rfl⟩
    replace T := T I10 eI10
    rw [← eI10]
    refine ow_bipush (v := (-100)) (by decide) d_Mo_sues_53 ?_
    exact ow_iret d_Mo_sues_55 rfl T
  · replace T := T.2 c
    refine ow_iload 5 rfl d_Mo_sues_26 ?_
    refine ow_if_eq (tgt := 40) d_Mo_sues_28 (by decide) (fun c => ?_) (fun c => ?_)
    · replace T := T.1 c
      refine ow_iload_n 2 rfl d_Mo_sues_40 ?_
      refine ow_iload_n 3 rfl d_Mo_sues_41 ?_
      refine ow_iload_n 4 rfl d_Mo_sues_42 ?_
      refine ow_callS (As := [.int p1, .int p2, .int p3]) (rest := []) (d2 := d) d_Mo_sues_43 l_Mo_374 v_Mo_suesOf (Nat.le_of_ble_eq_true rfl) (Nat.le_refl _) ⟨Nat.le_refl _, Nat.le_refl _⟩ (ow_mono T ?_)
      rintro r h' ⟨r11, I11, J11, R11, rfl, rfl, hR11, T⟩
      show ow_AW ow_Y0 (ow_Z Q) M_Mo_sues (d + 1) 0 0 46 [(5, .int r9), (0, .ref 70), (1, .int p1), (2, .int p2), (3, .int p3), (4, .int p4)] [.int r11] (85, I11, J11, R11) 0 0
      exact ow_iret d_Mo_sues_46 rfl T
    · replace T := T.2 c
      refine ow_iload_n 2 rfl d_Mo_sues_31 ?_
      refine ow_iload_n 4 rfl d_Mo_sues_32 ?_
      refine ow_iload_n 3 rfl d_Mo_sues_33 ?_
      refine ow_callS (As := [.int p1, .int p3, .int p2]) (rest := []) (d2 := d) d_Mo_sues_34 l_Mo_374 v_Mo_suesOf (Nat.le_of_ble_eq_true rfl) (Nat.le_refl _) ⟨Nat.le_refl _, Nat.le_refl _⟩ (ow_mono T ?_)
      rintro r h' ⟨r12, I12, J12, R12, rfl, rfl, hR12, T⟩
      show ow_AW ow_Y0 (ow_Z Q) M_Mo_sues (d + 1) 0 0 37 [(5, .int r9), (0, .ref 70), (1, .int p1), (2, .int p2), (3, .int p3), (4, .int p4)] [.int r12] (85, I12, J12, R12) 0 0
      refine ow_goto (tgt := 46) d_Mo_sues_37 (by decide) ?_
      exact ow_iret d_Mo_sues_46 rfl T
set_option maxRecDepth 4000 in
theorem t_Mo_seekRests_10 {d : Nat} {I : Nat → Nat → Int32} {J : Nat → Nat → Int64} {R : Nat → Nat → Option Nat} {Q : Option Value → ow_H → Prop}  {v1 : Int32} {v2 : Int32} {v3 : Int32}  (hR : ow_RF R) (T : ((4 ≤ v3 → Q (some (.int v2)) (85, I, J, R)) ∧ (¬ 4 ≤ v3 → ((v3 ≤ 1 → ((¬ (v3 - v3 / 2 * 2) = 1 → (ow_AM M_Mo_suesOf d [.int v1, .int 1, .int 0] (85, I, J, R) (fun r h' => ∃ (r2 : Int32) (I2 : Nat → Nat → Int32) (J2 : Nat → Nat → Int64) (R2 : Nat → Nat → Option Nat), r = some (.int r2) ∧ h' = (85, I2, J2, R2) ∧ ow_RF R2 ∧ (ow_AM M_Mo_suesOf d [.int v1, .int 0, .int 0] (85, I2, J2, R2) (fun r h' => ∃ (r3 : Int32) (I3 : Nat → Nat → Int32) (J3 : Nat → Nat → Int64) (R3 : Nat → Nat → Option Nat), r = some (.int r3) ∧ h' = (85, I3, J3, R3) ∧ ow_RF R3 ∧ ((r3 < r2 → ow_AW ow_Y0 (ow_Z Q) M_Mo_seekRests (d + 1) 0 0 10 [(0, .ref 70), (1, .int v1), (2, .int v2), (3, .int (v3 + 1))] [] (85, I3, J3, R3) 0 0) ∧ (¬ r3 < r2 → (ow_AM M_Mo_suesOf d [.int v1, .int 1, .int 0] (85, I3, J3, R3) (fun r h' => ∃ (r4 : Int32) (I4 : Nat → Nat → Int32) (J4 : Nat → Nat → Int64) (R4 : Nat → Nat → Option Nat), r = some (.int r4) ∧ h' = (85, I4, J4, R4) ∧ ow_RF R4 ∧ (ow_AM M_Mo_suesOf d [.int v1, .int 0, .int 0] (85, I4, J4, R4) (fun r h' => ∃ (r5 : Int32) (I5 : Nat → Nat → Int32) (J5 : Nat → Nat → Int64) (R5 : Nat → Nat → Option Nat), r = some (.int r5) ∧ h' = (85, I5, J5, R5) ∧ ow_RF R5 ∧ ((r4 ≤ r5 → ((¬ v2 = 0 → ow_AW ow_Y0 (ow_Z Q) M_Mo_seekRests (d + 1) 0 0 10 [(0, .ref 70), (1, .int v1), (2, .int (v2 + 1)), (3, .int (v3 + 1))] [] (85, I5, J5, R5) 0 0) ∧ (v2 = 0 → (∀ (I6 : Nat → Nat → Int32), I6 = ow_u I5 70 36 ((10 * (v3 / 2)) + (v3 - v3 / 2 * 2)) → ow_AW ow_Y0 (ow_Z Q) M_Mo_seekRests (d + 1) 0 0 10 [(0, .ref 70), (1, .int v1), (2, .int (v2 + 1)), (3, .int (v3 + 1))] [] (85, I6, J5, R5) 0 0)))) ∧ (¬ r4 ≤ r5 → ow_AW ow_Y0 (ow_Z Q) M_Mo_seekRests (d + 1) 0 0 10 [(0, .ref 70), (1, .int v1), (2, .int v2), (3, .int (v3 + 1))] [] (85, I5, J5, R5) 0 0))))))))))))) ∧ ((v3 - v3 / 2 * 2) = 1 → (ow_AM M_Mo_suesOf d [.int v1, .int 1, .int 1] (85, I, J, R) (fun r h' => ∃ (r7 : Int32) (I7 : Nat → Nat → Int32) (J7 : Nat → Nat → Int64) (R7 : Nat → Nat → Option Nat), r = some (.int r7) ∧ h' = (85, I7, J7, R7) ∧ ow_RF R7 ∧ (ow_AM M_Mo_suesOf d [.int v1, .int 0, .int 1] (85, I7, J7, R7) (fun r h' => ∃ (r8 : Int32) (I8 : Nat → Nat → Int32) (J8 : Nat → Nat → Int64) (R8 : Nat → Nat → Option Nat), r = some (.int r8) ∧ h' = (85, I8, J8, R8) ∧ ow_RF R8 ∧ ((r8 < r7 → ow_AW ow_Y0 (ow_Z Q) M_Mo_seekRests (d + 1) 0 0 10 [(0, .ref 70), (1, .int v1), (2, .int v2), (3, .int (v3 + 1))] [] (85, I8, J8, R8) 0 0) ∧ (¬ r8 < r7 → (ow_AM M_Mo_suesOf d [.int v1, .int 0, .int 0] (85, I8, J8, R8) (fun r h' => ∃ (r9 : Int32) (I9 : Nat → Nat → Int32) (J9 : Nat → Nat → Int64) (R9 : Nat → Nat → Option Nat), r = some (.int r9) ∧ h' = (85, I9, J9, R9) ∧ ow_RF R9 ∧ (ow_AM M_Mo_suesOf d [.int v1, .int 1, .int 0] (85, I9, J9, R9) (fun r h' => ∃ (r10 : Int32) (I10 : Nat → Nat → Int32) (J10 : Nat → Nat → Int64) (R10 : Nat → Nat → Option Nat), r = some (.int r10) ∧ h' = (85, I10, J10, R10) ∧ ow_RF R10 ∧ ((r9 ≤ r10 → ((¬ v2 = 0 → ow_AW ow_Y0 (ow_Z Q) M_Mo_seekRests (d + 1) 0 0 10 [(0, .ref 70), (1, .int v1), (2, .int (v2 + 1)), (3, .int (v3 + 1))] [] (85, I10, J10, R10) 0 0) ∧ (v2 = 0 → (∀ (I11 : Nat → Nat → Int32), I11 = ow_u I10 70 36 ((10 * (v3 / 2)) + (v3 - v3 / 2 * 2)) → ow_AW ow_Y0 (ow_Z Q) M_Mo_seekRests (d + 1) 0 0 10 [(0, .ref 70), (1, .int v1), (2, .int (v2 + 1)), (3, .int (v3 + 1))] [] (85, I11, J10, R10) 0 0)))) ∧ (¬ r9 ≤ r10 → ow_AW ow_Y0 (ow_Z Q) M_Mo_seekRests (d + 1) 0 0 10 [(0, .ref 70), (1, .int v1), (2, .int v2), (3, .int (v3 + 1))] [] (85, I10, J10, R10) 0 0))))))))))))))) ∧ (¬ v3 ≤ 1 → ((¬ (v3 - v3 / 2 * 2) = 1 → (ow_AM M_Mo_suesOf d [.int v1, .int 0, .int 0] (85, I, J, R) (fun r h' => ∃ (r12 : Int32) (I12 : Nat → Nat → Int32) (J12 : Nat → Nat → Int64) (R12 : Nat → Nat → Option Nat), r = some (.int r12) ∧ h' = (85, I12, J12, R12) ∧ ow_RF R12 ∧ (ow_AM M_Mo_suesOf d [.int v1, .int 1, .int 0] (85, I12, J12, R12) (fun r h' => ∃ (r13 : Int32) (I13 : Nat → Nat → Int32) (J13 : Nat → Nat → Int64) (R13 : Nat → Nat → Option Nat), r = some (.int r13) ∧ h' = (85, I13, J13, R13) ∧ ow_RF R13 ∧ ((r13 < r12 → ow_AW ow_Y0 (ow_Z Q) M_Mo_seekRests (d + 1) 0 0 10 [(0, .ref 70), (1, .int v1), (2, .int v2), (3, .int (v3 + 1))] [] (85, I13, J13, R13) 0 0) ∧ (¬ r13 < r12 → (ow_AM M_Mo_suesOf d [.int v1, .int 1, .int 1] (85, I13, J13, R13) (fun r h' => ∃ (r14 : Int32) (I14 : Nat → Nat → Int32) (J14 : Nat → Nat → Int64) (R14 : Nat → Nat → Option Nat), r = some (.int r14) ∧ h' = (85, I14, J14, R14) ∧ ow_RF R14 ∧ (ow_AM M_Mo_suesOf d [.int v1, .int 0, .int 1] (85, I14, J14, R14) (fun r h' => ∃ (r15 : Int32) (I15 : Nat → Nat → Int32) (J15 : Nat → Nat → Int64) (R15 : Nat → Nat → Option Nat), r = some (.int r15) ∧ h' = (85, I15, J15, R15) ∧ ow_RF R15 ∧ ((r14 ≤ r15 → ((¬ v2 = 0 → ow_AW ow_Y0 (ow_Z Q) M_Mo_seekRests (d + 1) 0 0 10 [(0, .ref 70), (1, .int v1), (2, .int (v2 + 1)), (3, .int (v3 + 1))] [] (85, I15, J15, R15) 0 0) ∧ (v2 = 0 → (∀ (I16 : Nat → Nat → Int32), I16 = ow_u I15 70 36 ((10 * (v3 / 2)) + (v3 - v3 / 2 * 2)) → ow_AW ow_Y0 (ow_Z Q) M_Mo_seekRests (d + 1) 0 0 10 [(0, .ref 70), (1, .int v1), (2, .int (v2 + 1)), (3, .int (v3 + 1))] [] (85, I16, J15, R15) 0 0)))) ∧ (¬ r14 ≤ r15 → ow_AW ow_Y0 (ow_Z Q) M_Mo_seekRests (d + 1) 0 0 10 [(0, .ref 70), (1, .int v1), (2, .int v2), (3, .int (v3 + 1))] [] (85, I15, J15, R15) 0 0))))))))))))) ∧ ((v3 - v3 / 2 * 2) = 1 → (ow_AM M_Mo_suesOf d [.int v1, .int 0, .int 1] (85, I, J, R) (fun r h' => ∃ (r17 : Int32) (I17 : Nat → Nat → Int32) (J17 : Nat → Nat → Int64) (R17 : Nat → Nat → Option Nat), r = some (.int r17) ∧ h' = (85, I17, J17, R17) ∧ ow_RF R17 ∧ (ow_AM M_Mo_suesOf d [.int v1, .int 1, .int 1] (85, I17, J17, R17) (fun r h' => ∃ (r18 : Int32) (I18 : Nat → Nat → Int32) (J18 : Nat → Nat → Int64) (R18 : Nat → Nat → Option Nat), r = some (.int r18) ∧ h' = (85, I18, J18, R18) ∧ ow_RF R18 ∧ ((r18 < r17 → ow_AW ow_Y0 (ow_Z Q) M_Mo_seekRests (d + 1) 0 0 10 [(0, .ref 70), (1, .int v1), (2, .int v2), (3, .int (v3 + 1))] [] (85, I18, J18, R18) 0 0) ∧ (¬ r18 < r17 → (ow_AM M_Mo_suesOf d [.int v1, .int 0, .int 1] (85, I18, J18, R18) (fun r h' => ∃ (r19 : Int32) (I19 : Nat → Nat → Int32) (J19 : Nat → Nat → Int64) (R19 : Nat → Nat → Option Nat), r = some (.int r19) ∧ h' = (85, I19, J19, R19) ∧ ow_RF R19 ∧ (ow_AM M_Mo_suesOf d [.int v1, .int 1, .int 1] (85, I19, J19, R19) (fun r h' => ∃ (r20 : Int32) (I20 : Nat → Nat → Int32) (J20 : Nat → Nat → Int64) (R20 : Nat → Nat → Option Nat), r = some (.int r20) ∧ h' = (85, I20, J20, R20) ∧ ow_RF R20 ∧ ((r19 ≤ r20 → ((¬ v2 = 0 → ow_AW ow_Y0 (ow_Z Q) M_Mo_seekRests (d + 1) 0 0 10 [(0, .ref 70), (1, .int v1), (2, .int (v2 + 1)), (3, .int (v3 + 1))] [] (85, I20, J20, R20) 0 0) ∧ (v2 = 0 → (∀ (I21 : Nat → Nat → Int32), I21 = ow_u I20 70 36 ((10 * (v3 / 2)) + (v3 - v3 / 2 * 2)) → ow_AW ow_Y0 (ow_Z Q) M_Mo_seekRests (d + 1) 0 0 10 [(0, .ref 70), (1, .int v1), (2, .int (v2 + 1)), (3, .int (v3 + 1))] [] (85, I21, J20, R20) 0 0)))) ∧ (¬ r19 ≤ r20 → ow_AW ow_Y0 (ow_Z Q) M_Mo_seekRests (d + 1) 0 0 10 [(0, .ref 70), (1, .int v1), (2, .int v2), (3, .int (v3 + 1))] [] (85, I20, J20, R20) 0 0))))))))))))))))))) : ow_AW ow_Y0 (ow_Z Q) M_Mo_seekRests (d + 1) 0 0 10 [(0, .ref 70), (1, .int v1), (2, .int v2), (3, .int v3)] [] (85, I, J, R) 0 0 := by
  refine ow_iload_n 3 rfl d_Mo_seekRests_10 ?_
  refine ow_iconst (v := 4) (by decide) d_Mo_seekRests_11 ?_
  refine ow_icmp_ge (tgt := 125) d_Mo_seekRests_12 (by decide) (fun c => ?_) (fun c => ?_)
  · replace T := T.1 c
    refine ow_iload_n 2 rfl d_Mo_seekRests_125 ?_
    exact ow_iret d_Mo_seekRests_126 rfl T
  · replace T := T.2 c
    refine ow_iload_n 3 rfl d_Mo_seekRests_15 ?_
    refine ow_iconst (v := 1) (by decide) d_Mo_seekRests_16 ?_
    refine ow_icmp_le (tgt := 24) d_Mo_seekRests_17 (by decide) (fun c => ?_) (fun c => ?_)
    · replace T := T.1 c
      refine ow_iconst (v := 0) (by decide) d_Mo_seekRests_24 ?_
      refine ow_istore (ls2 := [(4, .int 0), (0, .ref 70), (1, .int v1), (2, .int v2), (3, .int v3)]) d_Mo_seekRests_25 (by decide) rfl ?_
      refine ow_iload_n 4 rfl d_Mo_seekRests_27 ?_
      refine ow_iconst (v := 2) (by decide) d_Mo_seekRests_28 ?_
      refine ow_irem (by decide) d_Mo_seekRests_29 ?_
      refine ow_iconst (v := 1) (by decide) d_Mo_seekRests_30 ?_
      refine ow_icmp_ne (tgt := 38) d_Mo_seekRests_31 (by decide) (fun c => ?_) (fun c => ?_)
      · replace T := T.1 c
        refine ow_iconst (v := 0) (by decide) d_Mo_seekRests_38 ?_
        refine ow_istore (ls2 := [(5, .int 0), (4, .int 0), (0, .ref 70), (1, .int v1), (2, .int v2), (3, .int v3)]) d_Mo_seekRests_39 (by decide) rfl ?_
        refine ow_iload_n 3 rfl d_Mo_seekRests_41 ?_
        refine ow_iload 1 rfl d_Mo_seekRests_42 ?_
        refine ow_if_ne (tgt := 51) d_Mo_seekRests_44 (by decide) (fun c => ?_) (fun c => ?_)
        · exact absurd c (by decide)
        · clear c
          refine ow_iconst (v := 1) (by decide) d_Mo_seekRests_47 ?_
          refine ow_goto (tgt := 52) d_Mo_seekRests_48 (by decide) ?_
          refine ow_iload 0 rfl d_Mo_seekRests_52 ?_
          refine ow_callS (As := [.int v1, .int 1, .int 0]) (rest := []) (d2 := d) d_Mo_seekRests_54 l_Mo_374 v_Mo_suesOf (Nat.le_of_ble_eq_true rfl) (Nat.le_refl _) ⟨Nat.le_refl _, Nat.le_refl _⟩ (ow_mono T ?_)
          rintro r h' ⟨r2, I2, J2, R2, rfl, rfl, hR2, T⟩
          show ow_AW ow_Y0 (ow_Z Q) M_Mo_seekRests (d + 1) 0 0 57 [(5, .int 0), (4, .int 0), (0, .ref 70), (1, .int v1), (2, .int v2), (3, .int v3)] [.int r2] (85, I2, J2, R2) 0 0
          refine ow_iload_n 3 rfl d_Mo_seekRests_57 ?_
          refine ow_iload 1 rfl d_Mo_seekRests_58 ?_
          refine ow_iload 0 rfl d_Mo_seekRests_60 ?_
          refine ow_callS (As := [.int v1, .int 0, .int 0]) (rest := [.int r2]) (d2 := d) d_Mo_seekRests_62 l_Mo_374 v_Mo_suesOf (Nat.le_of_ble_eq_true rfl) (Nat.le_refl _) ⟨Nat.le_refl _, Nat.le_refl _⟩ (ow_mono T ?_)
          rintro r h' ⟨r3, I3, J3, R3, rfl, rfl, hR3, T⟩
          show ow_AW ow_Y0 (ow_Z Q) M_Mo_seekRests (d + 1) 0 0 65 [(5, .int 0), (4, .int 0), (0, .ref 70), (1, .int v1), (2, .int v2), (3, .int v3)] [.int r3, .int r2] (85, I3, J3, R3) 0 0
          refine ow_icmp_gt (tgt := 119) d_Mo_seekRests_65 (by decide) (fun c => ?_) (fun c => ?_)
          · replace T := T.1 c
            refine ow_iinc 5 (v := (v3 + 1)) (ls2 := [(3, .int (v3 + 1)), (5, .int 0), (4, .int 0), (0, .ref 70), (1, .int v1), (2, .int v2)]) d_Mo_seekRests_119 rfl rfl (by decide) rfl ?_
            refine ow_goto (tgt := 10) d_Mo_seekRests_122 (by decide) ?_
            refine ow_sub [3, 4, 5, 0] rfl ?_
            exact T
          · replace T := T.2 c
            refine ow_iload_n 3 rfl d_Mo_seekRests_68 ?_
            refine ow_iload 0 rfl d_Mo_seekRests_69 ?_
            refine ow_if_ne (tgt := 78) d_Mo_seekRests_71 (by decide) (fun c => ?_) (fun c => ?_)
            · exact absurd c (by decide)
            · clear c
              refine ow_iconst (v := 1) (by decide) d_Mo_seekRests_74 ?_
              refine ow_goto (tgt := 79) d_Mo_seekRests_75 (by decide) ?_
              refine ow_iload 1 rfl d_Mo_seekRests_79 ?_
              refine ow_callS (As := [.int v1, .int 1, .int 0]) (rest := []) (d2 := d) d_Mo_seekRests_81 l_Mo_374 v_Mo_suesOf (Nat.le_of_ble_eq_true rfl) (Nat.le_refl _) ⟨Nat.le_refl _, Nat.le_refl _⟩ (ow_mono T ?_)
              rintro r h' ⟨r4, I4, J4, R4, rfl, rfl, hR4, T⟩
              show ow_AW ow_Y0 (ow_Z Q) M_Mo_seekRests (d + 1) 0 0 84 [(5, .int 0), (4, .int 0), (0, .ref 70), (1, .int v1), (2, .int v2), (3, .int v3)] [.int r4] (85, I4, J4, R4) 0 0
              refine ow_iload_n 3 rfl d_Mo_seekRests_84 ?_
              refine ow_iload 0 rfl d_Mo_seekRests_85 ?_
              refine ow_iload 1 rfl d_Mo_seekRests_87 ?_
              refine ow_callS (As := [.int v1, .int 0, .int 0]) (rest := [.int r4]) (d2 := d) d_Mo_seekRests_89 l_Mo_374 v_Mo_suesOf (Nat.le_of_ble_eq_true rfl) (Nat.le_refl _) ⟨Nat.le_refl _, Nat.le_refl _⟩ (ow_mono T ?_)
              rintro r h' ⟨r5, I5, J5, R5, rfl, rfl, hR5, T⟩
              show ow_AW ow_Y0 (ow_Z Q) M_Mo_seekRests (d + 1) 0 0 92 [(5, .int 0), (4, .int 0), (0, .ref 70), (1, .int v1), (2, .int v2), (3, .int v3)] [.int r5, .int r4] (85, I5, J5, R5) 0 0
              refine ow_icmp_le (tgt := 98) d_Mo_seekRests_92 (by decide) (fun c => ?_) (fun c => ?_)
              · replace T := T.1 c
                refine ow_iload_n 4 rfl d_Mo_seekRests_98 ?_
                refine ow_if_ne (tgt := 116) d_Mo_seekRests_99 (by decide) (fun c => ?_) (fun c => ?_)
                · replace T := T.1 c
                  refine ow_iinc 4 (v := (v2 + 1)) (ls2 := [(2, .int (v2 + 1)), (5, .int 0), (4, .int 0), (0, .ref 70), (1, .int v1), (3, .int v3)]) d_Mo_seekRests_116 rfl rfl (by decide) rfl ?_
                  refine ow_iinc 5 (v := (v3 + 1)) (ls2 := [(3, .int (v3 + 1)), (2, .int (v2 + 1)), (5, .int 0), (4, .int 0), (0, .ref 70), (1, .int v1)]) d_Mo_seekRests_119 rfl rfl (by decide) rfl ?_
                  refine ow_goto (tgt := 10) d_Mo_seekRests_122 (by decide) ?_
                  refine ow_sub [4, 5, 1, 0] rfl ?_
                  exact T
                · replace T := T.2 c
                  refine ow_aload_n 2 rfl d_Mo_seekRests_102 ?_
                  refine ow_bipush (v := 10) (by decide) d_Mo_seekRests_103 ?_
                  refine ow_iload_n 5 rfl d_Mo_seekRests_105 ?_
                  refine ow_iconst (v := 2) (by decide) d_Mo_seekRests_106 ?_
                  refine ow_idiv (by decide) d_Mo_seekRests_107 ?_
                  refine ow_imul d_Mo_seekRests_108 ?_
                  refine ow_iload_n 5 rfl d_Mo_seekRests_109 ?_
                  refine ow_iconst (v := 2) (by decide) d_Mo_seekRests_110 ?_
                  refine ow_irem (by decide) d_Mo_seekRests_111 ?_
                  refine ow_iadd d_Mo_seekRests_112 ?_
                  refine ow_pI 205 d_Mo_seekRests_113 rfl rfl (by decide) rfl rfl rfl ?_
                  obtain ⟨I6, eI6⟩ : ∃ uu, uu = ow_u I5 70 36 ((10 * (v3 / 2)) + (v3 - v3 / 2 * 2)) := ⟨_, rfl⟩
                  replace T := T I6 eI6
                  rw [← eI6]
                  refine ow_iinc 4 (v := (v2 + 1)) (ls2 := [(2, .int (v2 + 1)), (5, .int 0), (4, .int 0), (0, .ref 70), (1, .int v1), (3, .int v3)]) d_Mo_seekRests_116 rfl rfl (by decide) rfl ?_
                  refine ow_iinc 5 (v := (v3 + 1)) (ls2 := [(3, .int (v3 + 1)), (2, .int (v2 + 1)), (5, .int 0), (4, .int 0), (0, .ref 70), (1, .int v1)]) d_Mo_seekRests_119 rfl rfl (by decide) rfl ?_
                  refine ow_goto (tgt := 10) d_Mo_seekRests_122 (by decide) ?_
                  refine ow_sub [4, 5, 1, 0] rfl ?_
                  exact T
              · replace T := T.2 c
                refine ow_goto (tgt := 119) d_Mo_seekRests_95 (by decide) ?_
                refine ow_iinc 5 (v := (v3 + 1)) (ls2 := [(3, .int (v3 + 1)), (5, .int 0), (4, .int 0), (0, .ref 70), (1, .int v1), (2, .int v2)]) d_Mo_seekRests_119 rfl rfl (by decide) rfl ?_
                refine ow_goto (tgt := 10) d_Mo_seekRests_122 (by decide) ?_
                refine ow_sub [3, 4, 5, 0] rfl ?_
                exact T
      · replace T := T.2 c
        refine ow_iconst (v := 1) (by decide) d_Mo_seekRests_34 ?_
        refine ow_goto (tgt := 39) d_Mo_seekRests_35 (by decide) ?_
        refine ow_istore (ls2 := [(5, .int 1), (4, .int 0), (0, .ref 70), (1, .int v1), (2, .int v2), (3, .int v3)]) d_Mo_seekRests_39 (by decide) rfl ?_
        refine ow_iload_n 3 rfl d_Mo_seekRests_41 ?_
        refine ow_iload 1 rfl d_Mo_seekRests_42 ?_
        refine ow_if_ne (tgt := 51) d_Mo_seekRests_44 (by decide) (fun c => ?_) (fun c => ?_)
        · exact absurd c (by decide)
        · clear c
          refine ow_iconst (v := 1) (by decide) d_Mo_seekRests_47 ?_
          refine ow_goto (tgt := 52) d_Mo_seekRests_48 (by decide) ?_
          refine ow_iload 0 rfl d_Mo_seekRests_52 ?_
          refine ow_callS (As := [.int v1, .int 1, .int 1]) (rest := []) (d2 := d) d_Mo_seekRests_54 l_Mo_374 v_Mo_suesOf (Nat.le_of_ble_eq_true rfl) (Nat.le_refl _) ⟨Nat.le_refl _, Nat.le_refl _⟩ (ow_mono T ?_)
          rintro r h' ⟨r7, I7, J7, R7, rfl, rfl, hR7, T⟩
          show ow_AW ow_Y0 (ow_Z Q) M_Mo_seekRests (d + 1) 0 0 57 [(5, .int 1), (4, .int 0), (0, .ref 70), (1, .int v1), (2, .int v2), (3, .int v3)] [.int r7] (85, I7, J7, R7) 0 0
          refine ow_iload_n 3 rfl d_Mo_seekRests_57 ?_
          refine ow_iload 1 rfl d_Mo_seekRests_58 ?_
          refine ow_iload 0 rfl d_Mo_seekRests_60 ?_
          refine ow_callS (As := [.int v1, .int 0, .int 1]) (rest := [.int r7]) (d2 := d) d_Mo_seekRests_62 l_Mo_374 v_Mo_suesOf (Nat.le_of_ble_eq_true rfl) (Nat.le_refl _) ⟨Nat.le_refl _, Nat.le_refl _⟩ (ow_mono T ?_)
          rintro r h' ⟨r8, I8, J8, R8, rfl, rfl, hR8, T⟩
          show ow_AW ow_Y0 (ow_Z Q) M_Mo_seekRests (d + 1) 0 0 65 [(5, .int 1), (4, .int 0), (0, .ref 70), (1, .int v1), (2, .int v2), (3, .int v3)] [.int r8, .int r7] (85, I8, J8, R8) 0 0
          refine ow_icmp_gt (tgt := 119) d_Mo_seekRests_65 (by decide) (fun c => ?_) (fun c => ?_)
          · replace T := T.1 c
            refine ow_iinc 5 (v := (v3 + 1)) (ls2 := [(3, .int (v3 + 1)), (5, .int 1), (4, .int 0), (0, .ref 70), (1, .int v1), (2, .int v2)]) d_Mo_seekRests_119 rfl rfl (by decide) rfl ?_
            refine ow_goto (tgt := 10) d_Mo_seekRests_122 (by decide) ?_
            refine ow_sub [3, 4, 5, 0] rfl ?_
            exact T
          · replace T := T.2 c
            refine ow_iload_n 3 rfl d_Mo_seekRests_68 ?_
            refine ow_iload 0 rfl d_Mo_seekRests_69 ?_
            refine ow_if_ne (tgt := 78) d_Mo_seekRests_71 (by decide) (fun c => ?_) (fun c => ?_)
            · clear c
              refine ow_iconst (v := 0) (by decide) d_Mo_seekRests_78 ?_
              refine ow_iload 1 rfl d_Mo_seekRests_79 ?_
              refine ow_callS (As := [.int v1, .int 0, .int 0]) (rest := []) (d2 := d) d_Mo_seekRests_81 l_Mo_374 v_Mo_suesOf (Nat.le_of_ble_eq_true rfl) (Nat.le_refl _) ⟨Nat.le_refl _, Nat.le_refl _⟩ (ow_mono T ?_)
              rintro r h' ⟨r9, I9, J9, R9, rfl, rfl, hR9, T⟩
              show ow_AW ow_Y0 (ow_Z Q) M_Mo_seekRests (d + 1) 0 0 84 [(5, .int 1), (4, .int 0), (0, .ref 70), (1, .int v1), (2, .int v2), (3, .int v3)] [.int r9] (85, I9, J9, R9) 0 0
              refine ow_iload_n 3 rfl d_Mo_seekRests_84 ?_
              refine ow_iload 0 rfl d_Mo_seekRests_85 ?_
              refine ow_iload 1 rfl d_Mo_seekRests_87 ?_
              refine ow_callS (As := [.int v1, .int 1, .int 0]) (rest := [.int r9]) (d2 := d) d_Mo_seekRests_89 l_Mo_374 v_Mo_suesOf (Nat.le_of_ble_eq_true rfl) (Nat.le_refl _) ⟨Nat.le_refl _, Nat.le_refl _⟩ (ow_mono T ?_)
              rintro r h' ⟨r10, I10, J10, R10, rfl, rfl, hR10, T⟩
              show ow_AW ow_Y0 (ow_Z Q) M_Mo_seekRests (d + 1) 0 0 92 [(5, .int 1), (4, .int 0), (0, .ref 70), (1, .int v1), (2, .int v2), (3, .int v3)] [.int r10, .int r9] (85, I10, J10, R10) 0 0
              refine ow_icmp_le (tgt := 98) d_Mo_seekRests_92 (by decide) (fun c => ?_) (fun c => ?_)
              · replace T := T.1 c
                refine ow_iload_n 4 rfl d_Mo_seekRests_98 ?_
                refine ow_if_ne (tgt := 116) d_Mo_seekRests_99 (by decide) (fun c => ?_) (fun c => ?_)
                · replace T := T.1 c
                  refine ow_iinc 4 (v := (v2 + 1)) (ls2 := [(2, .int (v2 + 1)), (5, .int 1), (4, .int 0), (0, .ref 70), (1, .int v1), (3, .int v3)]) d_Mo_seekRests_116 rfl rfl (by decide) rfl ?_
                  refine ow_iinc 5 (v := (v3 + 1)) (ls2 := [(3, .int (v3 + 1)), (2, .int (v2 + 1)), (5, .int 1), (4, .int 0), (0, .ref 70), (1, .int v1)]) d_Mo_seekRests_119 rfl rfl (by decide) rfl ?_
                  refine ow_goto (tgt := 10) d_Mo_seekRests_122 (by decide) ?_
                  refine ow_sub [4, 5, 1, 0] rfl ?_
                  exact T
                · replace T := T.2 c
                  refine ow_aload_n 2 rfl d_Mo_seekRests_102 ?_
                  refine ow_bipush (v := 10) (by decide) d_Mo_seekRests_103 ?_
                  refine ow_iload_n 5 rfl d_Mo_seekRests_105 ?_
                  refine ow_iconst (v := 2) (by decide) d_Mo_seekRests_106 ?_
                  refine ow_idiv (by decide) d_Mo_seekRests_107 ?_
                  refine ow_imul d_Mo_seekRests_108 ?_
                  refine ow_iload_n 5 rfl d_Mo_seekRests_109 ?_
                  refine ow_iconst (v := 2) (by decide) d_Mo_seekRests_110 ?_
                  refine ow_irem (by decide) d_Mo_seekRests_111 ?_
                  refine ow_iadd d_Mo_seekRests_112 ?_
                  refine ow_pI 205 d_Mo_seekRests_113 rfl rfl (by decide) rfl rfl rfl ?_
                  obtain ⟨I11, eI11⟩ : ∃ uu, uu = ow_u I10 70 36 ((10 * (v3 / 2)) + (v3 - v3 / 2 * 2)) := ⟨_, rfl⟩
                  replace T := T I11 eI11
                  rw [← eI11]
                  refine ow_iinc 4 (v := (v2 + 1)) (ls2 := [(2, .int (v2 + 1)), (5, .int 1), (4, .int 0), (0, .ref 70), (1, .int v1), (3, .int v3)]) d_Mo_seekRests_116 rfl rfl (by decide) rfl ?_
                  refine ow_iinc 5 (v := (v3 + 1)) (ls2 := [(3, .int (v3 + 1)), (2, .int (v2 + 1)), (5, .int 1), (4, .int 0), (0, .ref 70), (1, .int v1)]) d_Mo_seekRests_119 rfl rfl (by decide) rfl ?_
                  refine ow_goto (tgt := 10) d_Mo_seekRests_122 (by decide) ?_
                  refine ow_sub [4, 5, 1, 0] rfl ?_
                  exact T
              · replace T := T.2 c
                refine ow_goto (tgt := 119) d_Mo_seekRests_95 (by decide) ?_
                refine ow_iinc 5 (v := (v3 + 1)) (ls2 := [(3, .int (v3 + 1)), (5, .int 1), (4, .int 0), (0, .ref 70), (1, .int v1), (2, .int v2)]) d_Mo_seekRests_119 rfl rfl (by decide) rfl ?_
                refine ow_goto (tgt := 10) d_Mo_seekRests_122 (by decide) ?_
                refine ow_sub [3, 4, 5, 0] rfl ?_
                exact T
            · exact absurd c (by decide)
    · replace T := T.2 c
      refine ow_iconst (v := 1) (by decide) d_Mo_seekRests_20 ?_
      refine ow_goto (tgt := 25) d_Mo_seekRests_21 (by decide) ?_
      refine ow_istore (ls2 := [(4, .int 1), (0, .ref 70), (1, .int v1), (2, .int v2), (3, .int v3)]) d_Mo_seekRests_25 (by decide) rfl ?_
      refine ow_iload_n 4 rfl d_Mo_seekRests_27 ?_
      refine ow_iconst (v := 2) (by decide) d_Mo_seekRests_28 ?_
      refine ow_irem (by decide) d_Mo_seekRests_29 ?_
      refine ow_iconst (v := 1) (by decide) d_Mo_seekRests_30 ?_
      refine ow_icmp_ne (tgt := 38) d_Mo_seekRests_31 (by decide) (fun c => ?_) (fun c => ?_)
      · replace T := T.1 c
        refine ow_iconst (v := 0) (by decide) d_Mo_seekRests_38 ?_
        refine ow_istore (ls2 := [(5, .int 0), (4, .int 1), (0, .ref 70), (1, .int v1), (2, .int v2), (3, .int v3)]) d_Mo_seekRests_39 (by decide) rfl ?_
        refine ow_iload_n 3 rfl d_Mo_seekRests_41 ?_
        refine ow_iload 1 rfl d_Mo_seekRests_42 ?_
        refine ow_if_ne (tgt := 51) d_Mo_seekRests_44 (by decide) (fun c => ?_) (fun c => ?_)
        · clear c
          refine ow_iconst (v := 0) (by decide) d_Mo_seekRests_51 ?_
          refine ow_iload 0 rfl d_Mo_seekRests_52 ?_
          refine ow_callS (As := [.int v1, .int 0, .int 0]) (rest := []) (d2 := d) d_Mo_seekRests_54 l_Mo_374 v_Mo_suesOf (Nat.le_of_ble_eq_true rfl) (Nat.le_refl _) ⟨Nat.le_refl _, Nat.le_refl _⟩ (ow_mono T ?_)
          rintro r h' ⟨r12, I12, J12, R12, rfl, rfl, hR12, T⟩
          show ow_AW ow_Y0 (ow_Z Q) M_Mo_seekRests (d + 1) 0 0 57 [(5, .int 0), (4, .int 1), (0, .ref 70), (1, .int v1), (2, .int v2), (3, .int v3)] [.int r12] (85, I12, J12, R12) 0 0
          refine ow_iload_n 3 rfl d_Mo_seekRests_57 ?_
          refine ow_iload 1 rfl d_Mo_seekRests_58 ?_
          refine ow_iload 0 rfl d_Mo_seekRests_60 ?_
          refine ow_callS (As := [.int v1, .int 1, .int 0]) (rest := [.int r12]) (d2 := d) d_Mo_seekRests_62 l_Mo_374 v_Mo_suesOf (Nat.le_of_ble_eq_true rfl) (Nat.le_refl _) ⟨Nat.le_refl _, Nat.le_refl _⟩ (ow_mono T ?_)
          rintro r h' ⟨r13, I13, J13, R13, rfl, rfl, hR13, T⟩
          show ow_AW ow_Y0 (ow_Z Q) M_Mo_seekRests (d + 1) 0 0 65 [(5, .int 0), (4, .int 1), (0, .ref 70), (1, .int v1), (2, .int v2), (3, .int v3)] [.int r13, .int r12] (85, I13, J13, R13) 0 0
          refine ow_icmp_gt (tgt := 119) d_Mo_seekRests_65 (by decide) (fun c => ?_) (fun c => ?_)
          · replace T := T.1 c
            refine ow_iinc 5 (v := (v3 + 1)) (ls2 := [(3, .int (v3 + 1)), (5, .int 0), (4, .int 1), (0, .ref 70), (1, .int v1), (2, .int v2)]) d_Mo_seekRests_119 rfl rfl (by decide) rfl ?_
            refine ow_goto (tgt := 10) d_Mo_seekRests_122 (by decide) ?_
            refine ow_sub [3, 4, 5, 0] rfl ?_
            exact T
          · replace T := T.2 c
            refine ow_iload_n 3 rfl d_Mo_seekRests_68 ?_
            refine ow_iload 0 rfl d_Mo_seekRests_69 ?_
            refine ow_if_ne (tgt := 78) d_Mo_seekRests_71 (by decide) (fun c => ?_) (fun c => ?_)
            · exact absurd c (by decide)
            · clear c
              refine ow_iconst (v := 1) (by decide) d_Mo_seekRests_74 ?_
              refine ow_goto (tgt := 79) d_Mo_seekRests_75 (by decide) ?_
              refine ow_iload 1 rfl d_Mo_seekRests_79 ?_
              refine ow_callS (As := [.int v1, .int 1, .int 1]) (rest := []) (d2 := d) d_Mo_seekRests_81 l_Mo_374 v_Mo_suesOf (Nat.le_of_ble_eq_true rfl) (Nat.le_refl _) ⟨Nat.le_refl _, Nat.le_refl _⟩ (ow_mono T ?_)
              rintro r h' ⟨r14, I14, J14, R14, rfl, rfl, hR14, T⟩
              show ow_AW ow_Y0 (ow_Z Q) M_Mo_seekRests (d + 1) 0 0 84 [(5, .int 0), (4, .int 1), (0, .ref 70), (1, .int v1), (2, .int v2), (3, .int v3)] [.int r14] (85, I14, J14, R14) 0 0
              refine ow_iload_n 3 rfl d_Mo_seekRests_84 ?_
              refine ow_iload 0 rfl d_Mo_seekRests_85 ?_
              refine ow_iload 1 rfl d_Mo_seekRests_87 ?_
              refine ow_callS (As := [.int v1, .int 0, .int 1]) (rest := [.int r14]) (d2 := d) d_Mo_seekRests_89 l_Mo_374 v_Mo_suesOf (Nat.le_of_ble_eq_true rfl) (Nat.le_refl _) ⟨Nat.le_refl _, Nat.le_refl _⟩ (ow_mono T ?_)
              rintro r h' ⟨r15, I15, J15, R15, rfl, rfl, hR15, T⟩
              show ow_AW ow_Y0 (ow_Z Q) M_Mo_seekRests (d + 1) 0 0 92 [(5, .int 0), (4, .int 1), (0, .ref 70), (1, .int v1), (2, .int v2), (3, .int v3)] [.int r15, .int r14] (85, I15, J15, R15) 0 0
              refine ow_icmp_le (tgt := 98) d_Mo_seekRests_92 (by decide) (fun c => ?_) (fun c => ?_)
              · replace T := T.1 c
                refine ow_iload_n 4 rfl d_Mo_seekRests_98 ?_
                refine ow_if_ne (tgt := 116) d_Mo_seekRests_99 (by decide) (fun c => ?_) (fun c => ?_)
                · replace T := T.1 c
                  refine ow_iinc 4 (v := (v2 + 1)) (ls2 := [(2, .int (v2 + 1)), (5, .int 0), (4, .int 1), (0, .ref 70), (1, .int v1), (3, .int v3)]) d_Mo_seekRests_116 rfl rfl (by decide) rfl ?_
                  refine ow_iinc 5 (v := (v3 + 1)) (ls2 := [(3, .int (v3 + 1)), (2, .int (v2 + 1)), (5, .int 0), (4, .int 1), (0, .ref 70), (1, .int v1)]) d_Mo_seekRests_119 rfl rfl (by decide) rfl ?_
                  refine ow_goto (tgt := 10) d_Mo_seekRests_122 (by decide) ?_
                  refine ow_sub [4, 5, 1, 0] rfl ?_
                  exact T
                · replace T := T.2 c
                  refine ow_aload_n 2 rfl d_Mo_seekRests_102 ?_
                  refine ow_bipush (v := 10) (by decide) d_Mo_seekRests_103 ?_
                  refine ow_iload_n 5 rfl d_Mo_seekRests_105 ?_
                  refine ow_iconst (v := 2) (by decide) d_Mo_seekRests_106 ?_
                  refine ow_idiv (by decide) d_Mo_seekRests_107 ?_
                  refine ow_imul d_Mo_seekRests_108 ?_
                  refine ow_iload_n 5 rfl d_Mo_seekRests_109 ?_
                  refine ow_iconst (v := 2) (by decide) d_Mo_seekRests_110 ?_
                  refine ow_irem (by decide) d_Mo_seekRests_111 ?_
                  refine ow_iadd d_Mo_seekRests_112 ?_
                  refine ow_pI 205 d_Mo_seekRests_113 rfl rfl (by decide) rfl rfl rfl ?_
                  obtain ⟨I16, eI16⟩ : ∃ uu, uu = ow_u I15 70 36 ((10 * (v3 / 2)) + (v3 - v3 / 2 * 2)) := ⟨_, rfl⟩
                  replace T := T I16 eI16
                  rw [← eI16]
                  refine ow_iinc 4 (v := (v2 + 1)) (ls2 := [(2, .int (v2 + 1)), (5, .int 0), (4, .int 1), (0, .ref 70), (1, .int v1), (3, .int v3)]) d_Mo_seekRests_116 rfl rfl (by decide) rfl ?_
                  refine ow_iinc 5 (v := (v3 + 1)) (ls2 := [(3, .int (v3 + 1)), (2, .int (v2 + 1)), (5, .int 0), (4, .int 1), (0, .ref 70), (1, .int v1)]) d_Mo_seekRests_119 rfl rfl (by decide) rfl ?_
                  refine ow_goto (tgt := 10) d_Mo_seekRests_122 (by decide) ?_
                  refine ow_sub [4, 5, 1, 0] rfl ?_
                  exact T
              · replace T := T.2 c
                refine ow_goto (tgt := 119) d_Mo_seekRests_95 (by decide) ?_
                refine ow_iinc 5 (v := (v3 + 1)) (ls2 := [(3, .int (v3 + 1)), (5, .int 0), (4, .int 1), (0, .ref 70), (1, .int v1), (2, .int v2)]) d_Mo_seekRests_119 rfl rfl (by decide) rfl ?_
                refine ow_goto (tgt := 10) d_Mo_seekRests_122 (by decide) ?_
                refine ow_sub [3, 4, 5, 0] rfl ?_
                exact T
        · exact absurd c (by decide)
      · replace T := T.2 c
        refine ow_iconst (v := 1) (by decide) d_Mo_seekRests_34 ?_
        refine ow_goto (tgt := 39) d_Mo_seekRests_35 (by decide) ?_
        refine ow_istore (ls2 := [(5, .int 1), (4, .int 1), (0, .ref 70), (1, .int v1), (2, .int v2), (3, .int v3)]) d_Mo_seekRests_39 (by decide) rfl ?_
        refine ow_iload_n 3 rfl d_Mo_seekRests_41 ?_
        refine ow_iload 1 rfl d_Mo_seekRests_42 ?_
        refine ow_if_ne (tgt := 51) d_Mo_seekRests_44 (by decide) (fun c => ?_) (fun c => ?_)
        · clear c
          refine ow_iconst (v := 0) (by decide) d_Mo_seekRests_51 ?_
          refine ow_iload 0 rfl d_Mo_seekRests_52 ?_
          refine ow_callS (As := [.int v1, .int 0, .int 1]) (rest := []) (d2 := d) d_Mo_seekRests_54 l_Mo_374 v_Mo_suesOf (Nat.le_of_ble_eq_true rfl) (Nat.le_refl _) ⟨Nat.le_refl _, Nat.le_refl _⟩ (ow_mono T ?_)
          rintro r h' ⟨r17, I17, J17, R17, rfl, rfl, hR17, T⟩
          show ow_AW ow_Y0 (ow_Z Q) M_Mo_seekRests (d + 1) 0 0 57 [(5, .int 1), (4, .int 1), (0, .ref 70), (1, .int v1), (2, .int v2), (3, .int v3)] [.int r17] (85, I17, J17, R17) 0 0
          refine ow_iload_n 3 rfl d_Mo_seekRests_57 ?_
          refine ow_iload 1 rfl d_Mo_seekRests_58 ?_
          refine ow_iload 0 rfl d_Mo_seekRests_60 ?_
          refine ow_callS (As := [.int v1, .int 1, .int 1]) (rest := [.int r17]) (d2 := d) d_Mo_seekRests_62 l_Mo_374 v_Mo_suesOf (Nat.le_of_ble_eq_true rfl) (Nat.le_refl _) ⟨Nat.le_refl _, Nat.le_refl _⟩ (ow_mono T ?_)
          rintro r h' ⟨r18, I18, J18, R18, rfl, rfl, hR18, T⟩
          show ow_AW ow_Y0 (ow_Z Q) M_Mo_seekRests (d + 1) 0 0 65 [(5, .int 1), (4, .int 1), (0, .ref 70), (1, .int v1), (2, .int v2), (3, .int v3)] [.int r18, .int r17] (85, I18, J18, R18) 0 0
          refine ow_icmp_gt (tgt := 119) d_Mo_seekRests_65 (by decide) (fun c => ?_) (fun c => ?_)
          · replace T := T.1 c
            refine ow_iinc 5 (v := (v3 + 1)) (ls2 := [(3, .int (v3 + 1)), (5, .int 1), (4, .int 1), (0, .ref 70), (1, .int v1), (2, .int v2)]) d_Mo_seekRests_119 rfl rfl (by decide) rfl ?_
            refine ow_goto (tgt := 10) d_Mo_seekRests_122 (by decide) ?_
            refine ow_sub [3, 4, 5, 0] rfl ?_
            exact T
          · replace T := T.2 c
            refine ow_iload_n 3 rfl d_Mo_seekRests_68 ?_
            refine ow_iload 0 rfl d_Mo_seekRests_69 ?_
            refine ow_if_ne (tgt := 78) d_Mo_seekRests_71 (by decide) (fun c => ?_) (fun c => ?_)
            · clear c
              refine ow_iconst (v := 0) (by decide) d_Mo_seekRests_78 ?_
              refine ow_iload 1 rfl d_Mo_seekRests_79 ?_
              refine ow_callS (As := [.int v1, .int 0, .int 1]) (rest := []) (d2 := d) d_Mo_seekRests_81 l_Mo_374 v_Mo_suesOf (Nat.le_of_ble_eq_true rfl) (Nat.le_refl _) ⟨Nat.le_refl _, Nat.le_refl _⟩ (ow_mono T ?_)
              rintro r h' ⟨r19, I19, J19, R19, rfl, rfl, hR19, T⟩
              show ow_AW ow_Y0 (ow_Z Q) M_Mo_seekRests (d + 1) 0 0 84 [(5, .int 1), (4, .int 1), (0, .ref 70), (1, .int v1), (2, .int v2), (3, .int v3)] [.int r19] (85, I19, J19, R19) 0 0
              refine ow_iload_n 3 rfl d_Mo_seekRests_84 ?_
              refine ow_iload 0 rfl d_Mo_seekRests_85 ?_
              refine ow_iload 1 rfl d_Mo_seekRests_87 ?_
              refine ow_callS (As := [.int v1, .int 1, .int 1]) (rest := [.int r19]) (d2 := d) d_Mo_seekRests_89 l_Mo_374 v_Mo_suesOf (Nat.le_of_ble_eq_true rfl) (Nat.le_refl _) ⟨Nat.le_refl _, Nat.le_refl _⟩ (ow_mono T ?_)
              rintro r h' ⟨r20, I20, J20, R20, rfl, rfl, hR20, T⟩
              show ow_AW ow_Y0 (ow_Z Q) M_Mo_seekRests (d + 1) 0 0 92 [(5, .int 1), (4, .int 1), (0, .ref 70), (1, .int v1), (2, .int v2), (3, .int v3)] [.int r20, .int r19] (85, I20, J20, R20) 0 0
              refine ow_icmp_le (tgt := 98) d_Mo_seekRests_92 (by decide) (fun c => ?_) (fun c => ?_)
              · replace T := T.1 c
                refine ow_iload_n 4 rfl d_Mo_seekRests_98 ?_
                refine ow_if_ne (tgt := 116) d_Mo_seekRests_99 (by decide) (fun c => ?_) (fun c => ?_)
                · replace T := T.1 c
                  refine ow_iinc 4 (v := (v2 + 1)) (ls2 := [(2, .int (v2 + 1)), (5, .int 1), (4, .int 1), (0, .ref 70), (1, .int v1), (3, .int v3)]) d_Mo_seekRests_116 rfl rfl (by decide) rfl ?_
                  refine ow_iinc 5 (v := (v3 + 1)) (ls2 := [(3, .int (v3 + 1)), (2, .int (v2 + 1)), (5, .int 1), (4, .int 1), (0, .ref 70), (1, .int v1)]) d_Mo_seekRests_119 rfl rfl (by decide) rfl ?_
                  refine ow_goto (tgt := 10) d_Mo_seekRests_122 (by decide) ?_
                  refine ow_sub [4, 5, 1, 0] rfl ?_
                  exact T
                · replace T := T.2 c
                  refine ow_aload_n 2 rfl d_Mo_seekRests_102 ?_
                  refine ow_bipush (v := 10) (by decide) d_Mo_seekRests_103 ?_
                  refine ow_iload_n 5 rfl d_Mo_seekRests_105 ?_
                  refine ow_iconst (v := 2) (by decide) d_Mo_seekRests_106 ?_
                  refine ow_idiv (by decide) d_Mo_seekRests_107 ?_
                  refine ow_imul d_Mo_seekRests_108 ?_
                  refine ow_iload_n 5 rfl d_Mo_seekRests_109 ?_
                  refine ow_iconst (v := 2) (by decide) d_Mo_seekRests_110 ?_
                  refine ow_irem (by decide) d_Mo_seekRests_111 ?_
                  refine ow_iadd d_Mo_seekRests_112 ?_
                  refine ow_pI 205 d_Mo_seekRests_113 rfl rfl (by decide) rfl rfl rfl ?_
                  obtain ⟨I21, eI21⟩ : ∃ uu, uu = ow_u I20 70 36 ((10 * (v3 / 2)) + (v3 - v3 / 2 * 2)) := ⟨_, rfl⟩
                  replace T := T I21 eI21
                  rw [← eI21]
                  refine ow_iinc 4 (v := (v2 + 1)) (ls2 := [(2, .int (v2 + 1)), (5, .int 1), (4, .int 1), (0, .ref 70), (1, .int v1), (3, .int v3)]) d_Mo_seekRests_116 rfl rfl (by decide) rfl ?_
                  refine ow_iinc 5 (v := (v3 + 1)) (ls2 := [(3, .int (v3 + 1)), (2, .int (v2 + 1)), (5, .int 1), (4, .int 1), (0, .ref 70), (1, .int v1)]) d_Mo_seekRests_119 rfl rfl (by decide) rfl ?_
                  refine ow_goto (tgt := 10) d_Mo_seekRests_122 (by decide) ?_
                  refine ow_sub [4, 5, 1, 0] rfl ?_
                  exact T
              · replace T := T.2 c
                refine ow_goto (tgt := 119) d_Mo_seekRests_95 (by decide) ?_
                refine ow_iinc 5 (v := (v3 + 1)) (ls2 := [(3, .int (v3 + 1)), (5, .int 1), (4, .int 1), (0, .ref 70), (1, .int v1), (2, .int v2)]) d_Mo_seekRests_119 rfl rfl (by decide) rfl ?_
                refine ow_goto (tgt := 10) d_Mo_seekRests_122 (by decide) ?_
                refine ow_sub [3, 4, 5, 0] rfl ?_
                exact T
            · exact absurd c (by decide)
        · exact absurd c (by decide)
set_option maxRecDepth 4000 in
theorem t_Mo_seekRests {d : Nat} {I : Nat → Nat → Int32} {J : Nat → Nat → Int64} {R : Nat → Nat → Option Nat} {Q : Option Value → ow_H → Prop} {p1 : Int32}  (hR : ow_RF R) (T : (∀ (I22 : Nat → Nat → Int32), I22 = ow_u I 70 36 (-2) → ow_AW ow_Y0 (ow_Z Q) M_Mo_seekRests (d + 1) 0 0 10 [(0, .ref 70), (1, .int p1), (2, .int 0), (3, .int 0)] [] (85, I22, J, R) 0 0)) : ow_AM M_Mo_seekRests (d + 1) [.ref 70, .int p1] (85, I, J, R) Q := by
  refine ow_enter (by decide) (Nat.le_of_ble_eq_true rfl) ?_
  show ow_AW ow_Y0 (ow_Z Q) M_Mo_seekRests (d + 1) 0 0 0 [(0, .ref 70), (1, .int p1)] [] (85, I, J, R) 0 0
  refine ow_iconst (v := 0) (by decide) d_Mo_seekRests_0 ?_
  refine ow_istore_n (ls2 := [(2, .int 0), (0, .ref 70), (1, .int p1)]) d_Mo_seekRests_1 (by decide) rfl ?_
  refine ow_aload_n 1 rfl d_Mo_seekRests_2 ?_
  refine ow_bipush (v := (-2)) (by decide) d_Mo_seekRests_3 ?_
  refine ow_pI 205 d_Mo_seekRests_5 rfl rfl (by decide) rfl rfl rfl ?_
  obtain ⟨I22, eI22⟩ : ∃ uu, uu = ow_u I 70 36 (-2) := ⟨_, rfl⟩
  replace T := T I22 eI22
  rw [← eI22]
  refine ow_iconst (v := 0) (by decide) d_Mo_seekRests_8 ?_
  refine ow_istore_n (ls2 := [(3, .int 0), (2, .int 0), (0, .ref 70), (1, .int p1)]) d_Mo_seekRests_9 (by decide) rfl ?_
  refine ow_sub [2, 3, 1, 0] rfl ?_
  exact T
set_option maxRecDepth 4000 in
theorem t_Mo_rests {d : Nat} {I : Nat → Nat → Int32} {J : Nat → Nat → Int64} {R : Nat → Nat → Option Nat} {Q : Option Value → ow_H → Prop} {p1 : Int32}  (hR : ow_RF R) (T : (ow_AM M_Mo_good d [.ref 70] (85, I, J, R) (fun r h' => ∃ (I6 : Nat → Nat → Int32) (J6 : Nat → Nat → Int64) (R6 : Nat → Nat → Option Nat), r = none ∧ h' = (85, I6, J6, R6) ∧ ow_RF R6 ∧ (ow_AM M_Mo_in d [.int p1, .int 0, .int 9] (85, I6, J6, R6) (fun r h' => ∃ (r7 : Int32) (I7 : Nat → Nat → Int32) (J7 : Nat → Nat → Int64) (R7 : Nat → Nat → Option Nat), r = some (.int r7) ∧ h' = (85, I7, J7, R7) ∧ ow_RF R7 ∧ (ow_AM M_Mo_why d [.ref 70, .int (I6 70 14), .int r7] (85, I7, J7, R7) (fun r h' => ∃ (r8 : Int32) (I8 : Nat → Nat → Int32) (J8 : Nat → Nat → Int64) (R8 : Nat → Nat → Option Nat), r = some (.int r8) ∧ h' = (85, I8, J8, R8) ∧ ow_RF R8 ∧ ((r8 = 0 → (ow_AM M_Mo_seekRests d [.ref 70, .int p1] (85, I8, J8, R8) (fun r h' => ∃ (r9 : Int32) (I9 : Nat → Nat → Int32) (J9 : Nat → Nat → Int64) (R9 : Nat → Nat → Option Nat), r = some (.int r9) ∧ h' = (85, I9, J9, R9) ∧ ow_RF R9 ∧ Q (some (.int r9)) (85, I9, J9, R9)))) ∧ (¬ r8 = 0 → (ow_AM M_Mo_no d [.ref 70, .int r8] (85, I8, J8, R8) (fun r h' => ∃ (r10 : Int32) (I10 : Nat → Nat → Int32) (J10 : Nat → Nat → Int64) (R10 : Nat → Nat → Option Nat), r = some (.int r10) ∧ h' = (85, I10, J10, R10) ∧ ow_RF R10 ∧ Q (some (.int r10)) (85, I10, J10, R10)))))))))))) : ow_AM M_Mo_rests (d + 1) [.ref 70, .int p1] (85, I, J, R) Q := by
  refine ow_enter (by decide) (Nat.le_of_ble_eq_true rfl) ?_
  show ow_AW ow_Y0 (ow_Z Q) M_Mo_rests (d + 1) 0 0 0 [(0, .ref 70), (1, .int p1)] [] (85, I, J, R) 0 0
  refine ow_aload_n 0 rfl d_Mo_rests_0 ?_
  refine ow_callV (b := 70) (cq := 12) (As := []) (rest := []) (d2 := d) d_Mo_rests_1 l_Mo_154 v_Mo_good (show 70 < 85 by decide) rfl (by decide) rfl (Nat.le_of_ble_eq_true rfl) (Nat.le_refl _) ⟨Nat.le_refl _, Nat.le_refl _⟩ (ow_mono T ?_)
  rintro r h' ⟨I6, J6, R6, rfl, rfl, hR6, T⟩
  show ow_AW ow_Y0 (ow_Z Q) M_Mo_rests (d + 1) 0 0 4 [(0, .ref 70), (1, .int p1)] [] (85, I6, J6, R6) 0 0
  refine ow_aload_n 0 rfl d_Mo_rests_4 ?_
  refine ow_aload_n 0 rfl d_Mo_rests_5 ?_
  refine ow_gI 183 d_Mo_rests_6 rfl rfl (by decide) rfl (Or.inr rfl) ?_
  refine ow_iload_n 1 rfl d_Mo_rests_9 ?_
  refine ow_iconst (v := 0) (by decide) d_Mo_rests_10 ?_
  refine ow_bipush (v := 9) (by decide) d_Mo_rests_11 ?_
  refine ow_callS (As := [.int p1, .int 0, .int 9]) (rest := [.int (I6 70 14), .ref 70]) (d2 := d) d_Mo_rests_13 l_Mo_142 v_Mo_in (Nat.le_of_ble_eq_true rfl) (Nat.le_refl _) ⟨Nat.le_refl _, Nat.le_refl _⟩ (ow_mono T ?_)
  rintro r h' ⟨r7, I7, J7, R7, rfl, rfl, hR7, T⟩
  show ow_AW ow_Y0 (ow_Z Q) M_Mo_rests (d + 1) 0 0 16 [(0, .ref 70), (1, .int p1)] [.int r7, .int (I6 70 14), .ref 70] (85, I7, J7, R7) 0 0
  refine ow_callV (b := 70) (cq := 12) (As := [.int (I6 70 14), .int r7]) (rest := []) (d2 := d) d_Mo_rests_16 l_Mo_323 v_Mo_why (show 70 < 85 by decide) rfl (by decide) rfl (Nat.le_of_ble_eq_true rfl) (Nat.le_refl _) ⟨Nat.le_refl _, Nat.le_refl _⟩ (ow_mono T ?_)
  rintro r h' ⟨r8, I8, J8, R8, rfl, rfl, hR8, T⟩
  show ow_AW ow_Y0 (ow_Z Q) M_Mo_rests (d + 1) 0 0 19 [(0, .ref 70), (1, .int p1)] [.int r8] (85, I8, J8, R8) 0 0
  refine ow_istore_n (ls2 := [(2, .int r8), (0, .ref 70), (1, .int p1)]) d_Mo_rests_19 (by decide) rfl ?_
  refine ow_iload_n 0 rfl d_Mo_rests_20 ?_
  refine ow_if_eq (tgt := 32) d_Mo_rests_21 (by decide) (fun c => ?_) (fun c => ?_)
  · replace T := T.1 c
    refine ow_aload_n 1 rfl d_Mo_rests_32 ?_
    refine ow_iload_n 2 rfl d_Mo_rests_33 ?_
    refine ow_callV (b := 70) (cq := 12) (As := [.int p1]) (rest := []) (d2 := d) d_Mo_rests_34 l_Mo_381 v_Mo_seekRests (show 70 < 85 by decide) rfl (by decide) rfl (Nat.le_of_ble_eq_true rfl) (Nat.le_refl _) ⟨Nat.le_refl _, Nat.le_refl _⟩ (ow_mono T ?_)
    rintro r h' ⟨r9, I9, J9, R9, rfl, rfl, hR9, T⟩
    show ow_AW ow_Y0 (ow_Z Q) M_Mo_rests (d + 1) 0 0 37 [(2, .int r8), (0, .ref 70), (1, .int p1)] [.int r9] (85, I9, J9, R9) 0 0
    exact ow_iret d_Mo_rests_37 rfl T
  · replace T := T.2 c
    refine ow_aload_n 1 rfl d_Mo_rests_24 ?_
    refine ow_iload_n 0 rfl d_Mo_rests_25 ?_
    refine ow_callV (b := 70) (cq := 12) (As := [.int r8]) (rest := []) (d2 := d) d_Mo_rests_26 l_Mo_157 v_Mo_no (show 70 < 85 by decide) rfl (by decide) rfl (Nat.le_of_ble_eq_true rfl) (Nat.le_refl _) ⟨Nat.le_refl _, Nat.le_refl _⟩ (ow_mono T ?_)
    rintro r h' ⟨r10, I10, J10, R10, rfl, rfl, hR10, T⟩
    show ow_AW ow_Y0 (ow_Z Q) M_Mo_rests (d + 1) 0 0 29 [(2, .int r8), (0, .ref 70), (1, .int p1)] [.int r10] (85, I10, J10, R10) 0 0
    refine ow_goto (tgt := 37) d_Mo_rests_29 (by decide) ?_
    exact ow_iret d_Mo_rests_37 rfl T
set_option maxRecDepth 4000 in
theorem t_Mo_rest {d : Nat} {I : Nat → Nat → Int32} {J : Nat → Nat → Int64} {R : Nat → Nat → Option Nat} {Q : Option Value → ow_H → Prop} {p1 : Int32}  (hR : ow_RF R) (T : (ow_AM M_Mo_good d [.ref 70] (85, I, J, R) (fun r h' => ∃ (I6 : Nat → Nat → Int32) (J6 : Nat → Nat → Int64) (R6 : Nat → Nat → Option Nat), r = none ∧ h' = (85, I6, J6, R6) ∧ ow_RF R6 ∧ (ow_AM M_Mo_in d [.int p1, .int 0, .int 9] (85, I6, J6, R6) (fun r h' => ∃ (r7 : Int32) (I7 : Nat → Nat → Int32) (J7 : Nat → Nat → Int64) (R7 : Nat → Nat → Option Nat), r = some (.int r7) ∧ h' = (85, I7, J7, R7) ∧ ow_RF R7 ∧ (ow_AM M_Mo_why d [.ref 70, .int (I6 70 14), .int r7] (85, I7, J7, R7) (fun r h' => ∃ (r8 : Int32) (I8 : Nat → Nat → Int32) (J8 : Nat → Nat → Int64) (R8 : Nat → Nat → Option Nat), r = some (.int r8) ∧ h' = (85, I8, J8, R8) ∧ ow_RF R8 ∧ ((r8 = 0 → (ow_AM M_Mo_seekRests d [.ref 70, .int p1] (85, I8, J8, R8) (fun r h' => ∃ (r9 : Int32) (I9 : Nat → Nat → Int32) (J9 : Nat → Nat → Int64) (R9 : Nat → Nat → Option Nat), r = some (.int r9) ∧ h' = (85, I9, J9, R9) ∧ ow_RF R9 ∧ Q (some (.int (I9 70 36))) (85, I9, J9, R9)))) ∧ (¬ r8 = 0 → (ow_AM M_Mo_no d [.ref 70, .int r8] (85, I8, J8, R8) (fun r h' => ∃ (r10 : Int32) (I10 : Nat → Nat → Int32) (J10 : Nat → Nat → Int64) (R10 : Nat → Nat → Option Nat), r = some (.int r10) ∧ h' = (85, I10, J10, R10) ∧ ow_RF R10 ∧ Q (some (.int r10)) (85, I10, J10, R10)))))))))))) : ow_AM M_Mo_rest (d + 1) [.ref 70, .int p1] (85, I, J, R) Q := by
  refine ow_enter (by decide) (Nat.le_of_ble_eq_true rfl) ?_
  show ow_AW ow_Y0 (ow_Z Q) M_Mo_rest (d + 1) 0 0 0 [(0, .ref 70), (1, .int p1)] [] (85, I, J, R) 0 0
  refine ow_aload_n 0 rfl d_Mo_rest_0 ?_
  refine ow_callV (b := 70) (cq := 12) (As := []) (rest := []) (d2 := d) d_Mo_rest_1 l_Mo_154 v_Mo_good (show 70 < 85 by decide) rfl (by decide) rfl (Nat.le_of_ble_eq_true rfl) (Nat.le_refl _) ⟨Nat.le_refl _, Nat.le_refl _⟩ (ow_mono T ?_)
  rintro r h' ⟨I6, J6, R6, rfl, rfl, hR6, T⟩
  show ow_AW ow_Y0 (ow_Z Q) M_Mo_rest (d + 1) 0 0 4 [(0, .ref 70), (1, .int p1)] [] (85, I6, J6, R6) 0 0
  refine ow_aload_n 0 rfl d_Mo_rest_4 ?_
  refine ow_aload_n 0 rfl d_Mo_rest_5 ?_
  refine ow_gI 183 d_Mo_rest_6 rfl rfl (by decide) rfl (Or.inr rfl) ?_
  refine ow_iload_n 1 rfl d_Mo_rest_9 ?_
  refine ow_iconst (v := 0) (by decide) d_Mo_rest_10 ?_
  refine ow_bipush (v := 9) (by decide) d_Mo_rest_11 ?_
  refine ow_callS (As := [.int p1, .int 0, .int 9]) (rest := [.int (I6 70 14), .ref 70]) (d2 := d) d_Mo_rest_13 l_Mo_142 v_Mo_in (Nat.le_of_ble_eq_true rfl) (Nat.le_refl _) ⟨Nat.le_refl _, Nat.le_refl _⟩ (ow_mono T ?_)
  rintro r h' ⟨r7, I7, J7, R7, rfl, rfl, hR7, T⟩
  show ow_AW ow_Y0 (ow_Z Q) M_Mo_rest (d + 1) 0 0 16 [(0, .ref 70), (1, .int p1)] [.int r7, .int (I6 70 14), .ref 70] (85, I7, J7, R7) 0 0
  refine ow_callV (b := 70) (cq := 12) (As := [.int (I6 70 14), .int r7]) (rest := []) (d2 := d) d_Mo_rest_16 l_Mo_323 v_Mo_why (show 70 < 85 by decide) rfl (by decide) rfl (Nat.le_of_ble_eq_true rfl) (Nat.le_refl _) ⟨Nat.le_refl _, Nat.le_refl _⟩ (ow_mono T ?_)
  rintro r h' ⟨r8, I8, J8, R8, rfl, rfl, hR8, T⟩
  show ow_AW ow_Y0 (ow_Z Q) M_Mo_rest (d + 1) 0 0 19 [(0, .ref 70), (1, .int p1)] [.int r8] (85, I8, J8, R8) 0 0
  refine ow_istore_n (ls2 := [(2, .int r8), (0, .ref 70), (1, .int p1)]) d_Mo_rest_19 (by decide) rfl ?_
  refine ow_iload_n 0 rfl d_Mo_rest_20 ?_
  refine ow_if_eq (tgt := 30) d_Mo_rest_21 (by decide) (fun c => ?_) (fun c => ?_)
  · replace T := T.1 c
    refine ow_aload_n 1 rfl d_Mo_rest_30 ?_
    refine ow_iload_n 2 rfl d_Mo_rest_31 ?_
    refine ow_callV (b := 70) (cq := 12) (As := [.int p1]) (rest := []) (d2 := d) d_Mo_rest_32 l_Mo_381 v_Mo_seekRests (show 70 < 85 by decide) rfl (by decide) rfl (Nat.le_of_ble_eq_true rfl) (Nat.le_refl _) ⟨Nat.le_refl _, Nat.le_refl _⟩ (ow_mono T ?_)
    rintro r h' ⟨r9, I9, J9, R9, rfl, rfl, hR9, T⟩
    show ow_AW ow_Y0 (ow_Z Q) M_Mo_rest (d + 1) 0 0 35 [(2, .int r8), (0, .ref 70), (1, .int p1)] [.int r9] (85, I9, J9, R9) 0 0
    refine ow_pop rfl d_Mo_rest_35 ?_
    refine ow_aload_n 1 rfl d_Mo_rest_36 ?_
    refine ow_gI 205 d_Mo_rest_37 rfl rfl (by decide) rfl (Or.inl rfl) ?_
    exact ow_iret d_Mo_rest_40 rfl T
  · replace T := T.2 c
    refine ow_aload_n 1 rfl d_Mo_rest_24 ?_
    refine ow_iload_n 0 rfl d_Mo_rest_25 ?_
    refine ow_callV (b := 70) (cq := 12) (As := [.int r8]) (rest := []) (d2 := d) d_Mo_rest_26 l_Mo_157 v_Mo_no (show 70 < 85 by decide) rfl (by decide) rfl (Nat.le_of_ble_eq_true rfl) (Nat.le_refl _) ⟨Nat.le_refl _, Nat.le_refl _⟩ (ow_mono T ?_)
    rintro r h' ⟨r10, I10, J10, R10, rfl, rfl, hR10, T⟩
    show ow_AW ow_Y0 (ow_Z Q) M_Mo_rest (d + 1) 0 0 29 [(2, .int r8), (0, .ref 70), (1, .int p1)] [.int r10] (85, I10, J10, R10) 0 0
    exact ow_iret d_Mo_rest_29 rfl T
