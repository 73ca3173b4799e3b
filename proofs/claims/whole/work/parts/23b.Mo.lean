/-! Own rows, by program: Mo_number Mo_after Mo_shire Mo_begins Mo_readLine Mo_shireLine Mo_follyLine Mo_sendsLine Mo_hermitLine Mo_estateLine -/
theorem d_Mo_number_0 : decode M_Mo_number.2.1 0 = .ok (.aload_n 0, 1) := by decide +kernel
theorem d_Mo_number_1 : decode M_Mo_number.2.1 1 = .ok (.getfield 91, 3) := by decide +kernel
theorem d_Mo_number_4 : decode M_Mo_number.2.1 4 = .ok (.ifCond .eq 5, 3) := by decide +kernel
theorem d_Mo_number_7 : decode M_Mo_number.2.1 7 = .ok (.iload_n 1, 1) := by decide +kernel
theorem d_Mo_number_8 : decode M_Mo_number.2.1 8 = .ok (.ireturn, 1) := by decide +kernel
theorem d_Mo_number_9 : decode M_Mo_number.2.1 9 = .ok (.aload_n 0, 1) := by decide +kernel
theorem d_Mo_number_10 : decode M_Mo_number.2.1 10 = .ok (.getfield 81, 3) := by decide +kernel
theorem d_Mo_number_13 : decode M_Mo_number.2.1 13 = .ok (.iconst 3, 1) := by decide +kernel
theorem d_Mo_number_14 : decode M_Mo_number.2.1 14 = .ok (.if_icmp .eq 15, 3) := by decide +kernel
theorem d_Mo_number_17 : decode M_Mo_number.2.1 17 = .ok (.aload_n 0, 1) := by decide +kernel
theorem d_Mo_number_18 : decode M_Mo_number.2.1 18 = .ok (.iconst 1, 1) := by decide +kernel
theorem d_Mo_number_19 : decode M_Mo_number.2.1 19 = .ok (.aload_n 0, 1) := by decide +kernel
theorem d_Mo_number_20 : decode M_Mo_number.2.1 20 = .ok (.getfield 72, 3) := by decide +kernel
theorem d_Mo_number_23 : decode M_Mo_number.2.1 23 = .ok (.invokevirtual 118, 3) := by decide +kernel
theorem d_Mo_number_26 : decode M_Mo_number.2.1 26 = .ok (.goto 24, 3) := by decide +kernel
theorem d_Mo_number_29 : decode M_Mo_number.2.1 29 = .ok (.aload_n 0, 1) := by decide +kernel
theorem d_Mo_number_30 : decode M_Mo_number.2.1 30 = .ok (.getfield 78, 3) := by decide +kernel
theorem d_Mo_number_33 : decode M_Mo_number.2.1 33 = .ok (.iload_n 1, 1) := by decide +kernel
theorem d_Mo_number_34 : decode M_Mo_number.2.1 34 = .ok (.iload_n 2, 1) := by decide +kernel
theorem d_Mo_number_35 : decode M_Mo_number.2.1 35 = .ok (.invokestatic 142, 3) := by decide +kernel
theorem d_Mo_number_38 : decode M_Mo_number.2.1 38 = .ok (.ifCond .ne 12, 3) := by decide +kernel
theorem d_Mo_number_41 : decode M_Mo_number.2.1 41 = .ok (.aload_n 0, 1) := by decide +kernel
theorem d_Mo_number_42 : decode M_Mo_number.2.1 42 = .ok (.iconst 4, 1) := by decide +kernel
theorem d_Mo_number_43 : decode M_Mo_number.2.1 43 = .ok (.aload_n 0, 1) := by decide +kernel
theorem d_Mo_number_44 : decode M_Mo_number.2.1 44 = .ok (.getfield 72, 3) := by decide +kernel
theorem d_Mo_number_47 : decode M_Mo_number.2.1 47 = .ok (.invokevirtual 118, 3) := by decide +kernel
theorem d_Mo_number_50 : decode M_Mo_number.2.1 50 = .ok (.aload_n 0, 1) := by decide +kernel
theorem d_Mo_number_51 : decode M_Mo_number.2.1 51 = .ok (.getfield 91, 3) := by decide +kernel
theorem d_Mo_number_54 : decode M_Mo_number.2.1 54 = .ok (.ifCond .eq 5, 3) := by decide +kernel
theorem d_Mo_number_57 : decode M_Mo_number.2.1 57 = .ok (.iload_n 1, 1) := by decide +kernel
theorem d_Mo_number_58 : decode M_Mo_number.2.1 58 = .ok (.ireturn, 1) := by decide +kernel
theorem d_Mo_number_59 : decode M_Mo_number.2.1 59 = .ok (.aload_n 0, 1) := by decide +kernel
theorem d_Mo_number_60 : decode M_Mo_number.2.1 60 = .ok (.getfield 78, 3) := by decide +kernel
theorem d_Mo_number_63 : decode M_Mo_number.2.1 63 = .ok (.istore_n 3, 1) := by decide +kernel
theorem d_Mo_number_64 : decode M_Mo_number.2.1 64 = .ok (.aload_n 0, 1) := by decide +kernel
theorem d_Mo_number_65 : decode M_Mo_number.2.1 65 = .ok (.invokevirtual 112, 3) := by decide +kernel
theorem d_Mo_number_68 : decode M_Mo_number.2.1 68 = .ok (.iload_n 3, 1) := by decide +kernel
theorem d_Mo_number_69 : decode M_Mo_number.2.1 69 = .ok (.ireturn, 1) := by decide +kernel
theorem d_Mo_after_0 : decode M_Mo_after.2.1 0 = .ok (.aload_n 0, 1) := by decide +kernel
theorem d_Mo_after_1 : decode M_Mo_after.2.1 1 = .ok (.aload_n 1, 1) := by decide +kernel
theorem d_Mo_after_2 : decode M_Mo_after.2.1 2 = .ok (.invokevirtual 146, 3) := by decide +kernel
theorem d_Mo_after_5 : decode M_Mo_after.2.1 5 = .ok (.aload_n 0, 1) := by decide +kernel
theorem d_Mo_after_6 : decode M_Mo_after.2.1 6 = .ok (.iload_n 2, 1) := by decide +kernel
theorem d_Mo_after_7 : decode M_Mo_after.2.1 7 = .ok (.iload_n 3, 1) := by decide +kernel
theorem d_Mo_after_8 : decode M_Mo_after.2.1 8 = .ok (.invokevirtual 150, 3) := by decide +kernel
theorem d_Mo_after_11 : decode M_Mo_after.2.1 11 = .ok (.ireturn, 1) := by decide +kernel
theorem d_Mo_shire_0 : decode M_Mo_shire.2.1 0 = .ok (.aload_n 0, 1) := by decide +kernel
theorem d_Mo_shire_1 : decode M_Mo_shire.2.1 1 = .ok (.invokevirtual 154, 3) := by decide +kernel
theorem d_Mo_shire_4 : decode M_Mo_shire.2.1 4 = .ok (.iload_n 1, 1) := by decide +kernel
theorem d_Mo_shire_5 : decode M_Mo_shire.2.1 5 = .ok (.iconst 0, 1) := by decide +kernel
theorem d_Mo_shire_6 : decode M_Mo_shire.2.1 6 = .ok (.aload_n 0, 1) := by decide +kernel
theorem d_Mo_shire_7 : decode M_Mo_shire.2.1 7 = .ok (.getfield 59, 3) := by decide +kernel
theorem d_Mo_shire_10 : decode M_Mo_shire.2.1 10 = .ok (.invokestatic 142, 3) := by decide +kernel
theorem d_Mo_shire_13 : decode M_Mo_shire.2.1 13 = .ok (.ifCond .ne 9, 3) := by decide +kernel
theorem d_Mo_shire_16 : decode M_Mo_shire.2.1 16 = .ok (.aload_n 0, 1) := by decide +kernel
theorem d_Mo_shire_17 : decode M_Mo_shire.2.1 17 = .ok (.iconst 2, 1) := by decide +kernel
theorem d_Mo_shire_18 : decode M_Mo_shire.2.1 18 = .ok (.invokevirtual 157, 3) := by decide +kernel
theorem d_Mo_shire_21 : decode M_Mo_shire.2.1 21 = .ok (.ireturn, 1) := by decide +kernel
theorem d_Mo_shire_22 : decode M_Mo_shire.2.1 22 = .ok (.aload_n 0, 1) := by decide +kernel
theorem d_Mo_shire_23 : decode M_Mo_shire.2.1 23 = .ok (.iconst 0, 1) := by decide +kernel
theorem d_Mo_shire_24 : decode M_Mo_shire.2.1 24 = .ok (.putfield 59, 3) := by decide +kernel
theorem d_Mo_shire_27 : decode M_Mo_shire.2.1 27 = .ok (.aload_n 0, 1) := by decide +kernel
theorem d_Mo_shire_28 : decode M_Mo_shire.2.1 28 = .ok (.iconst 0, 1) := by decide +kernel
theorem d_Mo_shire_29 : decode M_Mo_shire.2.1 29 = .ok (.putfield 95, 3) := by decide +kernel
theorem d_Mo_shire_32 : decode M_Mo_shire.2.1 32 = .ok (.aload_n 0, 1) := by decide +kernel
theorem d_Mo_shire_33 : decode M_Mo_shire.2.1 33 = .ok (.iconst 0, 1) := by decide +kernel
theorem d_Mo_shire_34 : decode M_Mo_shire.2.1 34 = .ok (.putfield 91, 3) := by decide +kernel
theorem d_Mo_shire_37 : decode M_Mo_shire.2.1 37 = .ok (.iconst 0, 1) := by decide +kernel
theorem d_Mo_shire_38 : decode M_Mo_shire.2.1 38 = .ok (.istore_n 2, 1) := by decide +kernel
theorem d_Mo_shire_39 : decode M_Mo_shire.2.1 39 = .ok (.iload_n 2, 1) := by decide +kernel
theorem d_Mo_shire_40 : decode M_Mo_shire.2.1 40 = .ok (.sipush 146, 3) := by decide +kernel
theorem d_Mo_shire_43 : decode M_Mo_shire.2.1 43 = .ok (.if_icmp .ge 16, 3) := by decide +kernel
theorem d_Mo_shire_46 : decode M_Mo_shire.2.1 46 = .ok (.aload_n 0, 1) := by decide +kernel
theorem d_Mo_shire_47 : decode M_Mo_shire.2.1 47 = .ok (.getfield 23, 3) := by decide +kernel
theorem d_Mo_shire_50 : decode M_Mo_shire.2.1 50 = .ok (.iload_n 2, 1) := by decide +kernel
theorem d_Mo_shire_51 : decode M_Mo_shire.2.1 51 = .ok (.iconst 0, 1) := by decide +kernel
theorem d_Mo_shire_52 : decode M_Mo_shire.2.1 52 = .ok (.iastore, 1) := by decide +kernel
theorem d_Mo_shire_53 : decode M_Mo_shire.2.1 53 = .ok (.iinc 2 1, 3) := by decide +kernel
theorem d_Mo_shire_56 : decode M_Mo_shire.2.1 56 = .ok (.goto (-17), 3) := by decide +kernel
theorem d_Mo_shire_59 : decode M_Mo_shire.2.1 59 = .ok (.iconst 0, 1) := by decide +kernel
theorem d_Mo_shire_60 : decode M_Mo_shire.2.1 60 = .ok (.istore_n 2, 1) := by decide +kernel
theorem d_Mo_shire_61 : decode M_Mo_shire.2.1 61 = .ok (.iload_n 2, 1) := by decide +kernel
theorem d_Mo_shire_62 : decode M_Mo_shire.2.1 62 = .ok (.bipush 14, 2) := by decide +kernel
theorem d_Mo_shire_64 : decode M_Mo_shire.2.1 64 = .ok (.if_icmp .ge 16, 3) := by decide +kernel
theorem d_Mo_shire_67 : decode M_Mo_shire.2.1 67 = .ok (.aload_n 0, 1) := by decide +kernel
theorem d_Mo_shire_68 : decode M_Mo_shire.2.1 68 = .ok (.getfield 29, 3) := by decide +kernel
theorem d_Mo_shire_71 : decode M_Mo_shire.2.1 71 = .ok (.iload_n 2, 1) := by decide +kernel
theorem d_Mo_shire_72 : decode M_Mo_shire.2.1 72 = .ok (.iconst 0, 1) := by decide +kernel
theorem d_Mo_shire_73 : decode M_Mo_shire.2.1 73 = .ok (.iastore, 1) := by decide +kernel
theorem d_Mo_shire_74 : decode M_Mo_shire.2.1 74 = .ok (.iinc 2 1, 3) := by decide +kernel
theorem d_Mo_shire_77 : decode M_Mo_shire.2.1 77 = .ok (.goto (-16), 3) := by decide +kernel
theorem d_Mo_shire_80 : decode M_Mo_shire.2.1 80 = .ok (.aload_n 0, 1) := by decide +kernel
theorem d_Mo_shire_81 : decode M_Mo_shire.2.1 81 = .ok (.iload_n 1, 1) := by decide +kernel
theorem d_Mo_shire_82 : decode M_Mo_shire.2.1 82 = .ok (.putfield 62, 3) := by decide +kernel
theorem d_Mo_shire_85 : decode M_Mo_shire.2.1 85 = .ok (.aload_n 0, 1) := by decide +kernel
theorem d_Mo_shire_86 : decode M_Mo_shire.2.1 86 = .ok (.iconst 0, 1) := by decide +kernel
theorem d_Mo_shire_87 : decode M_Mo_shire.2.1 87 = .ok (.putfield 65, 3) := by decide +kernel
theorem d_Mo_shire_90 : decode M_Mo_shire.2.1 90 = .ok (.aload_n 0, 1) := by decide +kernel
theorem d_Mo_shire_91 : decode M_Mo_shire.2.1 91 = .ok (.invokevirtual 112, 3) := by decide +kernel
theorem d_Mo_shire_94 : decode M_Mo_shire.2.1 94 = .ok (.aload_n 0, 1) := by decide +kernel
theorem d_Mo_shire_95 : decode M_Mo_shire.2.1 95 = .ok (.invokevirtual 160, 3) := by decide +kernel
theorem d_Mo_shire_98 : decode M_Mo_shire.2.1 98 = .ok (.aload_n 0, 1) := by decide +kernel
theorem d_Mo_shire_99 : decode M_Mo_shire.2.1 99 = .ok (.getfield 91, 3) := by decide +kernel
theorem d_Mo_shire_102 : decode M_Mo_shire.2.1 102 = .ok (.ifCond .ne 23, 3) := by decide +kernel
theorem d_Mo_shire_105 : decode M_Mo_shire.2.1 105 = .ok (.aload_n 0, 1) := by decide +kernel
theorem d_Mo_shire_106 : decode M_Mo_shire.2.1 106 = .ok (.getfield 81, 3) := by decide +kernel
theorem d_Mo_shire_109 : decode M_Mo_shire.2.1 109 = .ok (.bipush 59, 2) := by decide +kernel
theorem d_Mo_shire_111 : decode M_Mo_shire.2.1 111 = .ok (.if_icmp .ne 14, 3) := by decide +kernel
theorem d_Mo_shire_114 : decode M_Mo_shire.2.1 114 = .ok (.aload_n 0, 1) := by decide +kernel
theorem d_Mo_shire_115 : decode M_Mo_shire.2.1 115 = .ok (.invokevirtual 112, 3) := by decide +kernel
theorem d_Mo_shire_118 : decode M_Mo_shire.2.1 118 = .ok (.aload_n 0, 1) := by decide +kernel
theorem d_Mo_shire_119 : decode M_Mo_shire.2.1 119 = .ok (.invokevirtual 160, 3) := by decide +kernel
theorem d_Mo_shire_122 : decode M_Mo_shire.2.1 122 = .ok (.goto (-24), 3) := by decide +kernel
theorem d_Mo_shire_125 : decode M_Mo_shire.2.1 125 = .ok (.aload_n 0, 1) := by decide +kernel
theorem d_Mo_shire_126 : decode M_Mo_shire.2.1 126 = .ok (.getfield 91, 3) := by decide +kernel
theorem d_Mo_shire_129 : decode M_Mo_shire.2.1 129 = .ok (.ifCond .ne 19, 3) := by decide +kernel
theorem d_Mo_shire_132 : decode M_Mo_shire.2.1 132 = .ok (.aload_n 0, 1) := by decide +kernel
theorem d_Mo_shire_133 : decode M_Mo_shire.2.1 133 = .ok (.getfield 81, 3) := by decide +kernel
theorem d_Mo_shire_136 : decode M_Mo_shire.2.1 136 = .ok (.ifCond .eq 12, 3) := by decide +kernel
theorem d_Mo_shire_139 : decode M_Mo_shire.2.1 139 = .ok (.aload_n 0, 1) := by decide +kernel
theorem d_Mo_shire_140 : decode M_Mo_shire.2.1 140 = .ok (.iconst 1, 1) := by decide +kernel
theorem d_Mo_shire_141 : decode M_Mo_shire.2.1 141 = .ok (.aload_n 0, 1) := by decide +kernel
theorem d_Mo_shire_142 : decode M_Mo_shire.2.1 142 = .ok (.getfield 72, 3) := by decide +kernel
theorem d_Mo_shire_145 : decode M_Mo_shire.2.1 145 = .ok (.invokevirtual 118, 3) := by decide +kernel
theorem d_Mo_shire_148 : decode M_Mo_shire.2.1 148 = .ok (.aload_n 0, 1) := by decide +kernel
theorem d_Mo_shire_149 : decode M_Mo_shire.2.1 149 = .ok (.getfield 91, 3) := by decide +kernel
theorem d_Mo_shire_152 : decode M_Mo_shire.2.1 152 = .ok (.ifCond .ne 32, 3) := by decide +kernel
theorem d_Mo_shire_155 : decode M_Mo_shire.2.1 155 = .ok (.aload_n 0, 1) := by decide +kernel
theorem d_Mo_shire_156 : decode M_Mo_shire.2.1 156 = .ok (.getfield 23, 3) := by decide +kernel
theorem d_Mo_shire_159 : decode M_Mo_shire.2.1 159 = .ok (.bipush 6, 2) := by decide +kernel
theorem d_Mo_shire_161 : decode M_Mo_shire.2.1 161 = .ok (.iaload, 1) := by decide +kernel
theorem d_Mo_shire_162 : decode M_Mo_shire.2.1 162 = .ok (.ifCond .eq 12, 3) := by decide +kernel
theorem d_Mo_shire_165 : decode M_Mo_shire.2.1 165 = .ok (.aload_n 0, 1) := by decide +kernel
theorem d_Mo_shire_166 : decode M_Mo_shire.2.1 166 = .ok (.getfield 23, 3) := by decide +kernel
theorem d_Mo_shire_169 : decode M_Mo_shire.2.1 169 = .ok (.iconst 2, 1) := by decide +kernel
theorem d_Mo_shire_170 : decode M_Mo_shire.2.1 170 = .ok (.iaload, 1) := by decide +kernel
theorem d_Mo_shire_171 : decode M_Mo_shire.2.1 171 = .ok (.ifCond .ne 13, 3) := by decide +kernel
theorem d_Mo_shire_174 : decode M_Mo_shire.2.1 174 = .ok (.aload_n 0, 1) := by decide +kernel
theorem d_Mo_shire_175 : decode M_Mo_shire.2.1 175 = .ok (.bipush 6, 2) := by decide +kernel
theorem d_Mo_shire_177 : decode M_Mo_shire.2.1 177 = .ok (.aload_n 0, 1) := by decide +kernel
theorem d_Mo_shire_178 : decode M_Mo_shire.2.1 178 = .ok (.getfield 72, 3) := by decide +kernel
theorem d_Mo_shire_181 : decode M_Mo_shire.2.1 181 = .ok (.invokevirtual 118, 3) := by decide +kernel
theorem d_Mo_shire_184 : decode M_Mo_shire.2.1 184 = .ok (.aload_n 0, 1) := by decide +kernel
theorem d_Mo_shire_185 : decode M_Mo_shire.2.1 185 = .ok (.getfield 91, 3) := by decide +kernel
theorem d_Mo_shire_188 : decode M_Mo_shire.2.1 188 = .ok (.ifCond .eq 9, 3) := by decide +kernel
theorem d_Mo_shire_191 : decode M_Mo_shire.2.1 191 = .ok (.aload_n 0, 1) := by decide +kernel
theorem d_Mo_shire_192 : decode M_Mo_shire.2.1 192 = .ok (.iconst 4, 1) := by decide +kernel
theorem d_Mo_shire_193 : decode M_Mo_shire.2.1 193 = .ok (.invokevirtual 157, 3) := by decide +kernel
theorem d_Mo_shire_196 : decode M_Mo_shire.2.1 196 = .ok (.ireturn, 1) := by decide +kernel
theorem d_Mo_shire_197 : decode M_Mo_shire.2.1 197 = .ok (.aload_n 0, 1) := by decide +kernel
theorem d_Mo_shire_198 : decode M_Mo_shire.2.1 198 = .ok (.getfield 23, 3) := by decide +kernel
theorem d_Mo_shire_201 : decode M_Mo_shire.2.1 201 = .ok (.iconst 0, 1) := by decide +kernel
theorem d_Mo_shire_202 : decode M_Mo_shire.2.1 202 = .ok (.aload_n 0, 1) := by decide +kernel
theorem d_Mo_shire_203 : decode M_Mo_shire.2.1 203 = .ok (.getfield 20, 3) := by decide +kernel
theorem d_Mo_shire_206 : decode M_Mo_shire.2.1 206 = .ok (.iconst 0, 1) := by decide +kernel
theorem d_Mo_shire_207 : decode M_Mo_shire.2.1 207 = .ok (.sipush 146, 3) := by decide +kernel
theorem d_Mo_shire_210 : decode M_Mo_shire.2.1 210 = .ok (.invokestatic 163, 3) := by decide +kernel
theorem d_Mo_shire_213 : decode M_Mo_shire.2.1 213 = .ok (.aload_n 0, 1) := by decide +kernel
theorem d_Mo_shire_214 : decode M_Mo_shire.2.1 214 = .ok (.getfield 29, 3) := by decide +kernel
theorem d_Mo_shire_217 : decode M_Mo_shire.2.1 217 = .ok (.iconst 0, 1) := by decide +kernel
theorem d_Mo_shire_218 : decode M_Mo_shire.2.1 218 = .ok (.aload_n 0, 1) := by decide +kernel
theorem d_Mo_shire_219 : decode M_Mo_shire.2.1 219 = .ok (.getfield 26, 3) := by decide +kernel
theorem d_Mo_shire_222 : decode M_Mo_shire.2.1 222 = .ok (.iconst 0, 1) := by decide +kernel
theorem d_Mo_shire_223 : decode M_Mo_shire.2.1 223 = .ok (.bipush 14, 2) := by decide +kernel
theorem d_Mo_shire_225 : decode M_Mo_shire.2.1 225 = .ok (.invokestatic 163, 3) := by decide +kernel
theorem d_Mo_shire_228 : decode M_Mo_shire.2.1 228 = .ok (.aload_n 0, 1) := by decide +kernel
theorem d_Mo_shire_229 : decode M_Mo_shire.2.1 229 = .ok (.getfield 29, 3) := by decide +kernel
theorem d_Mo_shire_232 : decode M_Mo_shire.2.1 232 = .ok (.iconst 0, 1) := by decide +kernel
theorem d_Mo_shire_233 : decode M_Mo_shire.2.1 233 = .ok (.aload_n 0, 1) := by decide +kernel
theorem d_Mo_shire_234 : decode M_Mo_shire.2.1 234 = .ok (.getfield 32, 3) := by decide +kernel
theorem d_Mo_shire_237 : decode M_Mo_shire.2.1 237 = .ok (.iconst 0, 1) := by decide +kernel
theorem d_Mo_shire_238 : decode M_Mo_shire.2.1 238 = .ok (.bipush 14, 2) := by decide +kernel
theorem d_Mo_shire_240 : decode M_Mo_shire.2.1 240 = .ok (.invokestatic 163, 3) := by decide +kernel
theorem d_Mo_shire_243 : decode M_Mo_shire.2.1 243 = .ok (.aload_n 0, 1) := by decide +kernel
theorem d_Mo_shire_244 : decode M_Mo_shire.2.1 244 = .ok (.iconst 1, 1) := by decide +kernel
theorem d_Mo_shire_245 : decode M_Mo_shire.2.1 245 = .ok (.putfield 167, 3) := by decide +kernel
theorem d_Mo_shire_248 : decode M_Mo_shire.2.1 248 = .ok (.aload_n 0, 1) := by decide +kernel
theorem d_Mo_shire_249 : decode M_Mo_shire.2.1 249 = .ok (.iconst 0, 1) := by decide +kernel
theorem d_Mo_shire_250 : decode M_Mo_shire.2.1 250 = .ok (.putfield 170, 3) := by decide +kernel
theorem d_Mo_shire_253 : decode M_Mo_shire.2.1 253 = .ok (.aload_n 0, 1) := by decide +kernel
theorem d_Mo_shire_254 : decode M_Mo_shire.2.1 254 = .ok (.iconst 0, 1) := by decide +kernel
theorem d_Mo_shire_255 : decode M_Mo_shire.2.1 255 = .ok (.putfield 173, 3) := by decide +kernel
theorem d_Mo_shire_258 : decode M_Mo_shire.2.1 258 = .ok (.aload_n 0, 1) := by decide +kernel
theorem d_Mo_shire_259 : decode M_Mo_shire.2.1 259 = .ok (.getfield 20, 3) := by decide +kernel
theorem d_Mo_shire_262 : decode M_Mo_shire.2.1 262 = .ok (.iconst 2, 1) := by decide +kernel
theorem d_Mo_shire_263 : decode M_Mo_shire.2.1 263 = .ok (.iaload, 1) := by decide +kernel
theorem d_Mo_shire_264 : decode M_Mo_shire.2.1 264 = .ok (.ireturn, 1) := by decide +kernel
theorem d_Mo_begins_0 : decode M_Mo_begins.2.1 0 = .ok (.aload_n 0, 1) := by decide +kernel
theorem d_Mo_begins_1 : decode M_Mo_begins.2.1 1 = .ok (.aload_n 1, 1) := by decide +kernel
theorem d_Mo_begins_2 : decode M_Mo_begins.2.1 2 = .ok (.invokevirtual 108, 3) := by decide +kernel
theorem d_Mo_begins_5 : decode M_Mo_begins.2.1 5 = .ok (.ifCond .ne 5, 3) := by decide +kernel
theorem d_Mo_begins_8 : decode M_Mo_begins.2.1 8 = .ok (.iconst 0, 1) := by decide +kernel
theorem d_Mo_begins_9 : decode M_Mo_begins.2.1 9 = .ok (.ireturn, 1) := by decide +kernel
theorem d_Mo_begins_10 : decode M_Mo_begins.2.1 10 = .ok (.iload_n 2, 1) := by decide +kernel
theorem d_Mo_begins_11 : decode M_Mo_begins.2.1 11 = .ok (.ifCond .ne 12, 3) := by decide +kernel
theorem d_Mo_begins_14 : decode M_Mo_begins.2.1 14 = .ok (.aload_n 0, 1) := by decide +kernel
theorem d_Mo_begins_15 : decode M_Mo_begins.2.1 15 = .ok (.iconst 5, 1) := by decide +kernel
theorem d_Mo_begins_16 : decode M_Mo_begins.2.1 16 = .ok (.aload_n 0, 1) := by decide +kernel
theorem d_Mo_begins_17 : decode M_Mo_begins.2.1 17 = .ok (.getfield 72, 3) := by decide +kernel
theorem d_Mo_begins_20 : decode M_Mo_begins.2.1 20 = .ok (.invokevirtual 118, 3) := by decide +kernel
theorem d_Mo_begins_23 : decode M_Mo_begins.2.1 23 = .ok (.aload_n 0, 1) := by decide +kernel
theorem d_Mo_begins_24 : decode M_Mo_begins.2.1 24 = .ok (.getfield 23, 3) := by decide +kernel
theorem d_Mo_begins_27 : decode M_Mo_begins.2.1 27 = .ok (.bipush 6, 2) := by decide +kernel
theorem d_Mo_begins_29 : decode M_Mo_begins.2.1 29 = .ok (.iaload, 1) := by decide +kernel
theorem d_Mo_begins_30 : decode M_Mo_begins.2.1 30 = .ok (.ifCond .ne 13, 3) := by decide +kernel
theorem d_Mo_begins_33 : decode M_Mo_begins.2.1 33 = .ok (.aload_n 0, 1) := by decide +kernel
theorem d_Mo_begins_34 : decode M_Mo_begins.2.1 34 = .ok (.bipush 6, 2) := by decide +kernel
theorem d_Mo_begins_36 : decode M_Mo_begins.2.1 36 = .ok (.aload_n 0, 1) := by decide +kernel
theorem d_Mo_begins_37 : decode M_Mo_begins.2.1 37 = .ok (.getfield 72, 3) := by decide +kernel
theorem d_Mo_begins_40 : decode M_Mo_begins.2.1 40 = .ok (.invokevirtual 118, 3) := by decide +kernel
theorem d_Mo_begins_43 : decode M_Mo_begins.2.1 43 = .ok (.aload_n 0, 1) := by decide +kernel
theorem d_Mo_begins_44 : decode M_Mo_begins.2.1 44 = .ok (.invokevirtual 176, 3) := by decide +kernel
theorem d_Mo_begins_47 : decode M_Mo_begins.2.1 47 = .ok (.iconst 1, 1) := by decide +kernel
theorem d_Mo_begins_48 : decode M_Mo_begins.2.1 48 = .ok (.ireturn, 1) := by decide +kernel
theorem d_Mo_readLine_0 : decode M_Mo_readLine.2.1 0 = .ok (.aload_n 0, 1) := by decide +kernel
theorem d_Mo_readLine_1 : decode M_Mo_readLine.2.1 1 = .ok (.ldc 122, 2) := by decide +kernel
theorem d_Mo_readLine_3 : decode M_Mo_readLine.2.1 3 = .ok (.invokevirtual 108, 3) := by decide +kernel
theorem d_Mo_readLine_6 : decode M_Mo_readLine.2.1 6 = .ok (.ifCond .eq 10, 3) := by decide +kernel
theorem d_Mo_readLine_9 : decode M_Mo_readLine.2.1 9 = .ok (.aload_n 0, 1) := by decide +kernel
theorem d_Mo_readLine_10 : decode M_Mo_readLine.2.1 10 = .ok (.invokevirtual 179, 3) := by decide +kernel
theorem d_Mo_readLine_13 : decode M_Mo_readLine.2.1 13 = .ok (.goto 171, 3) := by decide +kernel
theorem d_Mo_readLine_16 : decode M_Mo_readLine.2.1 16 = .ok (.aload_n 0, 1) := by decide +kernel
theorem d_Mo_readLine_17 : decode M_Mo_readLine.2.1 17 = .ok (.ldc 124, 2) := by decide +kernel
theorem d_Mo_readLine_19 : decode M_Mo_readLine.2.1 19 = .ok (.aload_n 0, 1) := by decide +kernel
theorem d_Mo_readLine_20 : decode M_Mo_readLine.2.1 20 = .ok (.getfield 23, 3) := by decide +kernel
theorem d_Mo_readLine_23 : decode M_Mo_readLine.2.1 23 = .ok (.iconst 2, 1) := by decide +kernel
theorem d_Mo_readLine_24 : decode M_Mo_readLine.2.1 24 = .ok (.iaload, 1) := by decide +kernel
theorem d_Mo_readLine_25 : decode M_Mo_readLine.2.1 25 = .ok (.bipush 6, 2) := by decide +kernel
theorem d_Mo_readLine_27 : decode M_Mo_readLine.2.1 27 = .ok (.if_icmp .ge 7, 3) := by decide +kernel
theorem d_Mo_readLine_30 : decode M_Mo_readLine.2.1 30 = .ok (.iconst 1, 1) := by decide +kernel
theorem d_Mo_readLine_31 : decode M_Mo_readLine.2.1 31 = .ok (.goto 4, 3) := by decide +kernel
theorem d_Mo_readLine_34 : decode M_Mo_readLine.2.1 34 = .ok (.iconst 0, 1) := by decide +kernel
theorem d_Mo_readLine_35 : decode M_Mo_readLine.2.1 35 = .ok (.invokevirtual 182, 3) := by decide +kernel
theorem d_Mo_readLine_38 : decode M_Mo_readLine.2.1 38 = .ok (.ifCond .eq 10, 3) := by decide +kernel
theorem d_Mo_readLine_41 : decode M_Mo_readLine.2.1 41 = .ok (.aload_n 0, 1) := by decide +kernel
theorem d_Mo_readLine_42 : decode M_Mo_readLine.2.1 42 = .ok (.invokevirtual 186, 3) := by decide +kernel
theorem d_Mo_readLine_45 : decode M_Mo_readLine.2.1 45 = .ok (.goto 139, 3) := by decide +kernel
theorem d_Mo_readLine_48 : decode M_Mo_readLine.2.1 48 = .ok (.aload_n 0, 1) := by decide +kernel
theorem d_Mo_readLine_49 : decode M_Mo_readLine.2.1 49 = .ok (.ldc 126, 2) := by decide +kernel
theorem d_Mo_readLine_51 : decode M_Mo_readLine.2.1 51 = .ok (.iconst 1, 1) := by decide +kernel
theorem d_Mo_readLine_52 : decode M_Mo_readLine.2.1 52 = .ok (.invokevirtual 182, 3) := by decide +kernel
theorem d_Mo_readLine_55 : decode M_Mo_readLine.2.1 55 = .ok (.ifCond .eq 10, 3) := by decide +kernel
theorem d_Mo_readLine_58 : decode M_Mo_readLine.2.1 58 = .ok (.aload_n 0, 1) := by decide +kernel
theorem d_Mo_readLine_59 : decode M_Mo_readLine.2.1 59 = .ok (.invokevirtual 189, 3) := by decide +kernel
theorem d_Mo_readLine_62 : decode M_Mo_readLine.2.1 62 = .ok (.goto 122, 3) := by decide +kernel
theorem d_Mo_readLine_65 : decode M_Mo_readLine.2.1 65 = .ok (.aload_n 0, 1) := by decide +kernel
theorem d_Mo_readLine_66 : decode M_Mo_readLine.2.1 66 = .ok (.ldc 128, 2) := by decide +kernel
theorem d_Mo_readLine_68 : decode M_Mo_readLine.2.1 68 = .ok (.iconst 1, 1) := by decide +kernel
theorem d_Mo_readLine_69 : decode M_Mo_readLine.2.1 69 = .ok (.invokevirtual 182, 3) := by decide +kernel
theorem d_Mo_readLine_72 : decode M_Mo_readLine.2.1 72 = .ok (.ifCond .eq 10, 3) := by decide +kernel
theorem d_Mo_readLine_75 : decode M_Mo_readLine.2.1 75 = .ok (.aload_n 0, 1) := by decide +kernel
theorem d_Mo_readLine_76 : decode M_Mo_readLine.2.1 76 = .ok (.invokevirtual 192, 3) := by decide +kernel
theorem d_Mo_readLine_79 : decode M_Mo_readLine.2.1 79 = .ok (.goto 105, 3) := by decide +kernel
theorem d_Mo_readLine_82 : decode M_Mo_readLine.2.1 82 = .ok (.aload_n 0, 1) := by decide +kernel
theorem d_Mo_readLine_83 : decode M_Mo_readLine.2.1 83 = .ok (.ldc 130, 2) := by decide +kernel
theorem d_Mo_readLine_85 : decode M_Mo_readLine.2.1 85 = .ok (.aload_n 0, 1) := by decide +kernel
theorem d_Mo_readLine_86 : decode M_Mo_readLine.2.1 86 = .ok (.getfield 23, 3) := by decide +kernel
theorem d_Mo_readLine_89 : decode M_Mo_readLine.2.1 89 = .ok (.iconst 3, 1) := by decide +kernel
theorem d_Mo_readLine_90 : decode M_Mo_readLine.2.1 90 = .ok (.iaload, 1) := by decide +kernel
theorem d_Mo_readLine_91 : decode M_Mo_readLine.2.1 91 = .ok (.iconst 5, 1) := by decide +kernel
theorem d_Mo_readLine_92 : decode M_Mo_readLine.2.1 92 = .ok (.if_icmp .ge 7, 3) := by decide +kernel
theorem d_Mo_readLine_95 : decode M_Mo_readLine.2.1 95 = .ok (.iconst 1, 1) := by decide +kernel
theorem d_Mo_readLine_96 : decode M_Mo_readLine.2.1 96 = .ok (.goto 4, 3) := by decide +kernel
theorem d_Mo_readLine_99 : decode M_Mo_readLine.2.1 99 = .ok (.iconst 0, 1) := by decide +kernel
theorem d_Mo_readLine_100 : decode M_Mo_readLine.2.1 100 = .ok (.invokevirtual 182, 3) := by decide +kernel
theorem d_Mo_readLine_103 : decode M_Mo_readLine.2.1 103 = .ok (.ifCond .eq 10, 3) := by decide +kernel
theorem d_Mo_readLine_106 : decode M_Mo_readLine.2.1 106 = .ok (.aload_n 0, 1) := by decide +kernel
theorem d_Mo_readLine_107 : decode M_Mo_readLine.2.1 107 = .ok (.invokevirtual 195, 3) := by decide +kernel
theorem d_Mo_readLine_110 : decode M_Mo_readLine.2.1 110 = .ok (.goto 74, 3) := by decide +kernel
theorem d_Mo_readLine_113 : decode M_Mo_readLine.2.1 113 = .ok (.aload_n 0, 1) := by decide +kernel
theorem d_Mo_readLine_114 : decode M_Mo_readLine.2.1 114 = .ok (.ldc 132, 2) := by decide +kernel
theorem d_Mo_readLine_116 : decode M_Mo_readLine.2.1 116 = .ok (.aload_n 0, 1) := by decide +kernel
theorem d_Mo_readLine_117 : decode M_Mo_readLine.2.1 117 = .ok (.getfield 23, 3) := by decide +kernel
theorem d_Mo_readLine_120 : decode M_Mo_readLine.2.1 120 = .ok (.iconst 4, 1) := by decide +kernel
theorem d_Mo_readLine_121 : decode M_Mo_readLine.2.1 121 = .ok (.iaload, 1) := by decide +kernel
theorem d_Mo_readLine_122 : decode M_Mo_readLine.2.1 122 = .ok (.iconst 3, 1) := by decide +kernel
theorem d_Mo_readLine_123 : decode M_Mo_readLine.2.1 123 = .ok (.if_icmp .ge 7, 3) := by decide +kernel
theorem d_Mo_readLine_126 : decode M_Mo_readLine.2.1 126 = .ok (.iconst 1, 1) := by decide +kernel
theorem d_Mo_readLine_127 : decode M_Mo_readLine.2.1 127 = .ok (.goto 4, 3) := by decide +kernel
theorem d_Mo_readLine_130 : decode M_Mo_readLine.2.1 130 = .ok (.iconst 0, 1) := by decide +kernel
theorem d_Mo_readLine_131 : decode M_Mo_readLine.2.1 131 = .ok (.invokevirtual 182, 3) := by decide +kernel
theorem d_Mo_readLine_134 : decode M_Mo_readLine.2.1 134 = .ok (.ifCond .eq 10, 3) := by decide +kernel
theorem d_Mo_readLine_137 : decode M_Mo_readLine.2.1 137 = .ok (.aload_n 0, 1) := by decide +kernel
theorem d_Mo_readLine_138 : decode M_Mo_readLine.2.1 138 = .ok (.invokevirtual 198, 3) := by decide +kernel
theorem d_Mo_readLine_141 : decode M_Mo_readLine.2.1 141 = .ok (.goto 43, 3) := by decide +kernel
theorem d_Mo_readLine_144 : decode M_Mo_readLine.2.1 144 = .ok (.aload_n 0, 1) := by decide +kernel
theorem d_Mo_readLine_145 : decode M_Mo_readLine.2.1 145 = .ok (.ldc 134, 2) := by decide +kernel
theorem d_Mo_readLine_147 : decode M_Mo_readLine.2.1 147 = .ok (.aload_n 0, 1) := by decide +kernel
theorem d_Mo_readLine_148 : decode M_Mo_readLine.2.1 148 = .ok (.getfield 23, 3) := by decide +kernel
theorem d_Mo_readLine_151 : decode M_Mo_readLine.2.1 151 = .ok (.iconst 5, 1) := by decide +kernel
theorem d_Mo_readLine_152 : decode M_Mo_readLine.2.1 152 = .ok (.iaload, 1) := by decide +kernel
theorem d_Mo_readLine_153 : decode M_Mo_readLine.2.1 153 = .ok (.iconst 5, 1) := by decide +kernel
theorem d_Mo_readLine_154 : decode M_Mo_readLine.2.1 154 = .ok (.if_icmp .ge 7, 3) := by decide +kernel
theorem d_Mo_readLine_157 : decode M_Mo_readLine.2.1 157 = .ok (.iconst 1, 1) := by decide +kernel
theorem d_Mo_readLine_158 : decode M_Mo_readLine.2.1 158 = .ok (.goto 4, 3) := by decide +kernel
theorem d_Mo_readLine_161 : decode M_Mo_readLine.2.1 161 = .ok (.iconst 0, 1) := by decide +kernel
theorem d_Mo_readLine_162 : decode M_Mo_readLine.2.1 162 = .ok (.invokevirtual 182, 3) := by decide +kernel
theorem d_Mo_readLine_165 : decode M_Mo_readLine.2.1 165 = .ok (.ifCond .eq 10, 3) := by decide +kernel
theorem d_Mo_readLine_168 : decode M_Mo_readLine.2.1 168 = .ok (.aload_n 0, 1) := by decide +kernel
theorem d_Mo_readLine_169 : decode M_Mo_readLine.2.1 169 = .ok (.invokevirtual 201, 3) := by decide +kernel
theorem d_Mo_readLine_172 : decode M_Mo_readLine.2.1 172 = .ok (.goto 12, 3) := by decide +kernel
theorem d_Mo_readLine_175 : decode M_Mo_readLine.2.1 175 = .ok (.aload_n 0, 1) := by decide +kernel
theorem d_Mo_readLine_176 : decode M_Mo_readLine.2.1 176 = .ok (.iconst 1, 1) := by decide +kernel
theorem d_Mo_readLine_177 : decode M_Mo_readLine.2.1 177 = .ok (.aload_n 0, 1) := by decide +kernel
theorem d_Mo_readLine_178 : decode M_Mo_readLine.2.1 178 = .ok (.getfield 72, 3) := by decide +kernel
theorem d_Mo_readLine_181 : decode M_Mo_readLine.2.1 181 = .ok (.invokevirtual 118, 3) := by decide +kernel
theorem d_Mo_readLine_184 : decode M_Mo_readLine.2.1 184 = .ok (.return_, 1) := by decide +kernel
theorem d_Mo_shireLine_0 : decode M_Mo_shireLine.2.1 0 = .ok (.aload_n 0, 1) := by decide +kernel
theorem d_Mo_shireLine_1 : decode M_Mo_shireLine.2.1 1 = .ok (.getfield 23, 3) := by decide +kernel
theorem d_Mo_shireLine_4 : decode M_Mo_shireLine.2.1 4 = .ok (.bipush 6, 2) := by decide +kernel
theorem d_Mo_shireLine_6 : decode M_Mo_shireLine.2.1 6 = .ok (.iaload, 1) := by decide +kernel
theorem d_Mo_shireLine_7 : decode M_Mo_shireLine.2.1 7 = .ok (.ifCond .le 12, 3) := by decide +kernel
theorem d_Mo_shireLine_10 : decode M_Mo_shireLine.2.1 10 = .ok (.aload_n 0, 1) := by decide +kernel
theorem d_Mo_shireLine_11 : decode M_Mo_shireLine.2.1 11 = .ok (.iconst 3, 1) := by decide +kernel
theorem d_Mo_shireLine_12 : decode M_Mo_shireLine.2.1 12 = .ok (.aload_n 0, 1) := by decide +kernel
theorem d_Mo_shireLine_13 : decode M_Mo_shireLine.2.1 13 = .ok (.getfield 72, 3) := by decide +kernel
theorem d_Mo_shireLine_16 : decode M_Mo_shireLine.2.1 16 = .ok (.invokevirtual 118, 3) := by decide +kernel
theorem d_Mo_shireLine_19 : decode M_Mo_shireLine.2.1 19 = .ok (.aload_n 0, 1) := by decide +kernel
theorem d_Mo_shireLine_20 : decode M_Mo_shireLine.2.1 20 = .ok (.getfield 91, 3) := by decide +kernel
theorem d_Mo_shireLine_23 : decode M_Mo_shireLine.2.1 23 = .ok (.ifCond .eq 4, 3) := by decide +kernel
theorem d_Mo_shireLine_26 : decode M_Mo_shireLine.2.1 26 = .ok (.return_, 1) := by decide +kernel
theorem d_Mo_shireLine_27 : decode M_Mo_shireLine.2.1 27 = .ok (.aload_n 0, 1) := by decide +kernel
theorem d_Mo_shireLine_28 : decode M_Mo_shireLine.2.1 28 = .ok (.invokevirtual 112, 3) := by decide +kernel
theorem d_Mo_shireLine_31 : decode M_Mo_shireLine.2.1 31 = .ok (.aload_n 0, 1) := by decide +kernel
theorem d_Mo_shireLine_32 : decode M_Mo_shireLine.2.1 32 = .ok (.getfield 23, 3) := by decide +kernel
theorem d_Mo_shireLine_35 : decode M_Mo_shireLine.2.1 35 = .ok (.iconst 0, 1) := by decide +kernel
theorem d_Mo_shireLine_36 : decode M_Mo_shireLine.2.1 36 = .ok (.aload_n 0, 1) := by decide +kernel
theorem d_Mo_shireLine_37 : decode M_Mo_shireLine.2.1 37 = .ok (.ldc 204, 2) := by decide +kernel
theorem d_Mo_shireLine_39 : decode M_Mo_shireLine.2.1 39 = .ok (.iconst 0, 1) := by decide +kernel
theorem d_Mo_shireLine_40 : decode M_Mo_shireLine.2.1 40 = .ok (.bipush 100, 2) := by decide +kernel
theorem d_Mo_shireLine_42 : decode M_Mo_shireLine.2.1 42 = .ok (.invokevirtual 206, 3) := by decide +kernel
theorem d_Mo_shireLine_45 : decode M_Mo_shireLine.2.1 45 = .ok (.iastore, 1) := by decide +kernel
theorem d_Mo_shireLine_46 : decode M_Mo_shireLine.2.1 46 = .ok (.aload_n 0, 1) := by decide +kernel
theorem d_Mo_shireLine_47 : decode M_Mo_shireLine.2.1 47 = .ok (.getfield 23, 3) := by decide +kernel
theorem d_Mo_shireLine_50 : decode M_Mo_shireLine.2.1 50 = .ok (.iconst 1, 1) := by decide +kernel
theorem d_Mo_shireLine_51 : decode M_Mo_shireLine.2.1 51 = .ok (.aload_n 0, 1) := by decide +kernel
theorem d_Mo_shireLine_52 : decode M_Mo_shireLine.2.1 52 = .ok (.ldc 210, 2) := by decide +kernel
theorem d_Mo_shireLine_54 : decode M_Mo_shireLine.2.1 54 = .ok (.iconst 0, 1) := by decide +kernel
theorem d_Mo_shireLine_55 : decode M_Mo_shireLine.2.1 55 = .ok (.bipush 9, 2) := by decide +kernel
theorem d_Mo_shireLine_57 : decode M_Mo_shireLine.2.1 57 = .ok (.invokevirtual 206, 3) := by decide +kernel
theorem d_Mo_shireLine_60 : decode M_Mo_shireLine.2.1 60 = .ok (.iastore, 1) := by decide +kernel
theorem d_Mo_shireLine_61 : decode M_Mo_shireLine.2.1 61 = .ok (.aload_n 0, 1) := by decide +kernel
theorem d_Mo_shireLine_62 : decode M_Mo_shireLine.2.1 62 = .ok (.getfield 91, 3) := by decide +kernel
theorem d_Mo_shireLine_65 : decode M_Mo_shireLine.2.1 65 = .ok (.ifCond .ne 11, 3) := by decide +kernel
theorem d_Mo_shireLine_68 : decode M_Mo_shireLine.2.1 68 = .ok (.aload_n 0, 1) := by decide +kernel
theorem d_Mo_shireLine_69 : decode M_Mo_shireLine.2.1 69 = .ok (.getfield 23, 3) := by decide +kernel
theorem d_Mo_shireLine_72 : decode M_Mo_shireLine.2.1 72 = .ok (.bipush 6, 2) := by decide +kernel
theorem d_Mo_shireLine_74 : decode M_Mo_shireLine.2.1 74 = .ok (.iconst 1, 1) := by decide +kernel
theorem d_Mo_shireLine_75 : decode M_Mo_shireLine.2.1 75 = .ok (.iastore, 1) := by decide +kernel
theorem d_Mo_shireLine_76 : decode M_Mo_shireLine.2.1 76 = .ok (.return_, 1) := by decide +kernel
theorem d_Mo_follyLine_0 : decode M_Mo_follyLine.2.1 0 = .ok (.aload_n 0, 1) := by decide +kernel
theorem d_Mo_follyLine_1 : decode M_Mo_follyLine.2.1 1 = .ok (.getfield 91, 3) := by decide +kernel
theorem d_Mo_follyLine_4 : decode M_Mo_follyLine.2.1 4 = .ok (.ifCond .eq 4, 3) := by decide +kernel
theorem d_Mo_follyLine_7 : decode M_Mo_follyLine.2.1 7 = .ok (.return_, 1) := by decide +kernel
theorem d_Mo_follyLine_8 : decode M_Mo_follyLine.2.1 8 = .ok (.aload_n 0, 1) := by decide +kernel
theorem d_Mo_follyLine_9 : decode M_Mo_follyLine.2.1 9 = .ok (.getfield 23, 3) := by decide +kernel
theorem d_Mo_follyLine_12 : decode M_Mo_follyLine.2.1 12 = .ok (.iconst 2, 1) := by decide +kernel
theorem d_Mo_follyLine_13 : decode M_Mo_follyLine.2.1 13 = .ok (.iaload, 1) := by decide +kernel
theorem d_Mo_follyLine_14 : decode M_Mo_follyLine.2.1 14 = .ok (.istore_n 1, 1) := by decide +kernel
theorem d_Mo_follyLine_15 : decode M_Mo_follyLine.2.1 15 = .ok (.aload_n 0, 1) := by decide +kernel
theorem d_Mo_follyLine_16 : decode M_Mo_follyLine.2.1 16 = .ok (.iload_n 1, 1) := by decide +kernel
theorem d_Mo_follyLine_17 : decode M_Mo_follyLine.2.1 17 = .ok (.invokevirtual 212, 3) := by decide +kernel
theorem d_Mo_follyLine_20 : decode M_Mo_follyLine.2.1 20 = .ok (.aload_n 0, 1) := by decide +kernel
theorem d_Mo_follyLine_21 : decode M_Mo_follyLine.2.1 21 = .ok (.ldc 216, 2) := by decide +kernel
theorem d_Mo_follyLine_23 : decode M_Mo_follyLine.2.1 23 = .ok (.invokevirtual 108, 3) := by decide +kernel
theorem d_Mo_follyLine_26 : decode M_Mo_follyLine.2.1 26 = .ok (.ifCond .eq 7, 3) := by decide +kernel
theorem d_Mo_follyLine_29 : decode M_Mo_follyLine.2.1 29 = .ok (.iconst 0, 1) := by decide +kernel
theorem d_Mo_follyLine_30 : decode M_Mo_follyLine.2.1 30 = .ok (.goto 56, 3) := by decide +kernel
theorem d_Mo_follyLine_33 : decode M_Mo_follyLine.2.1 33 = .ok (.aload_n 0, 1) := by decide +kernel
theorem d_Mo_follyLine_34 : decode M_Mo_follyLine.2.1 34 = .ok (.ldc 218, 2) := by decide +kernel
theorem d_Mo_follyLine_36 : decode M_Mo_follyLine.2.1 36 = .ok (.invokevirtual 108, 3) := by decide +kernel
theorem d_Mo_follyLine_39 : decode M_Mo_follyLine.2.1 39 = .ok (.ifCond .eq 7, 3) := by decide +kernel
theorem d_Mo_follyLine_42 : decode M_Mo_follyLine.2.1 42 = .ok (.iconst 1, 1) := by decide +kernel
theorem d_Mo_follyLine_43 : decode M_Mo_follyLine.2.1 43 = .ok (.goto 43, 3) := by decide +kernel
theorem d_Mo_follyLine_46 : decode M_Mo_follyLine.2.1 46 = .ok (.aload_n 0, 1) := by decide +kernel
theorem d_Mo_follyLine_47 : decode M_Mo_follyLine.2.1 47 = .ok (.ldc 220, 2) := by decide +kernel
theorem d_Mo_follyLine_49 : decode M_Mo_follyLine.2.1 49 = .ok (.invokevirtual 108, 3) := by decide +kernel
theorem d_Mo_follyLine_52 : decode M_Mo_follyLine.2.1 52 = .ok (.ifCond .eq 7, 3) := by decide +kernel
theorem d_Mo_follyLine_55 : decode M_Mo_follyLine.2.1 55 = .ok (.iconst 2, 1) := by decide +kernel
theorem d_Mo_follyLine_56 : decode M_Mo_follyLine.2.1 56 = .ok (.goto 30, 3) := by decide +kernel
theorem d_Mo_follyLine_59 : decode M_Mo_follyLine.2.1 59 = .ok (.aload_n 0, 1) := by decide +kernel
theorem d_Mo_follyLine_60 : decode M_Mo_follyLine.2.1 60 = .ok (.ldc 222, 2) := by decide +kernel
theorem d_Mo_follyLine_62 : decode M_Mo_follyLine.2.1 62 = .ok (.invokevirtual 108, 3) := by decide +kernel
theorem d_Mo_follyLine_65 : decode M_Mo_follyLine.2.1 65 = .ok (.ifCond .eq 7, 3) := by decide +kernel
theorem d_Mo_follyLine_68 : decode M_Mo_follyLine.2.1 68 = .ok (.iconst 3, 1) := by decide +kernel
theorem d_Mo_follyLine_69 : decode M_Mo_follyLine.2.1 69 = .ok (.goto 17, 3) := by decide +kernel
theorem d_Mo_follyLine_72 : decode M_Mo_follyLine.2.1 72 = .ok (.aload_n 0, 1) := by decide +kernel
theorem d_Mo_follyLine_73 : decode M_Mo_follyLine.2.1 73 = .ok (.ldc 224, 2) := by decide +kernel
theorem d_Mo_follyLine_75 : decode M_Mo_follyLine.2.1 75 = .ok (.invokevirtual 108, 3) := by decide +kernel
theorem d_Mo_follyLine_78 : decode M_Mo_follyLine.2.1 78 = .ok (.ifCond .eq 7, 3) := by decide +kernel
theorem d_Mo_follyLine_81 : decode M_Mo_follyLine.2.1 81 = .ok (.iconst 4, 1) := by decide +kernel
theorem d_Mo_follyLine_82 : decode M_Mo_follyLine.2.1 82 = .ok (.goto 4, 3) := by decide +kernel
theorem d_Mo_follyLine_85 : decode M_Mo_follyLine.2.1 85 = .ok (.iconst (-1), 1) := by decide +kernel
theorem d_Mo_follyLine_86 : decode M_Mo_follyLine.2.1 86 = .ok (.istore_n 2, 1) := by decide +kernel
theorem d_Mo_follyLine_87 : decode M_Mo_follyLine.2.1 87 = .ok (.iload_n 2, 1) := by decide +kernel
theorem d_Mo_follyLine_88 : decode M_Mo_follyLine.2.1 88 = .ok (.ifCond .ge 12, 3) := by decide +kernel
theorem d_Mo_follyLine_91 : decode M_Mo_follyLine.2.1 91 = .ok (.aload_n 0, 1) := by decide +kernel
theorem d_Mo_follyLine_92 : decode M_Mo_follyLine.2.1 92 = .ok (.iconst 1, 1) := by decide +kernel
theorem d_Mo_follyLine_93 : decode M_Mo_follyLine.2.1 93 = .ok (.aload_n 0, 1) := by decide +kernel
theorem d_Mo_follyLine_94 : decode M_Mo_follyLine.2.1 94 = .ok (.getfield 72, 3) := by decide +kernel
theorem d_Mo_follyLine_97 : decode M_Mo_follyLine.2.1 97 = .ok (.invokevirtual 118, 3) := by decide +kernel
theorem d_Mo_follyLine_100 : decode M_Mo_follyLine.2.1 100 = .ok (.aload_n 0, 1) := by decide +kernel
theorem d_Mo_follyLine_101 : decode M_Mo_follyLine.2.1 101 = .ok (.invokevirtual 176, 3) := by decide +kernel
theorem d_Mo_follyLine_104 : decode M_Mo_follyLine.2.1 104 = .ok (.aload_n 0, 1) := by decide +kernel
theorem d_Mo_follyLine_105 : decode M_Mo_follyLine.2.1 105 = .ok (.getfield 23, 3) := by decide +kernel
theorem d_Mo_follyLine_108 : decode M_Mo_follyLine.2.1 108 = .ok (.bipush 7, 2) := by decide +kernel
theorem d_Mo_follyLine_110 : decode M_Mo_follyLine.2.1 110 = .ok (.iconst 2, 1) := by decide +kernel
theorem d_Mo_follyLine_111 : decode M_Mo_follyLine.2.1 111 = .ok (.iload_n 1, 1) := by decide +kernel
theorem d_Mo_follyLine_112 : decode M_Mo_follyLine.2.1 112 = .ok (.imul, 1) := by decide +kernel
theorem d_Mo_follyLine_113 : decode M_Mo_follyLine.2.1 113 = .ok (.iadd, 1) := by decide +kernel
theorem d_Mo_follyLine_114 : decode M_Mo_follyLine.2.1 114 = .ok (.iload_n 2, 1) := by decide +kernel
theorem d_Mo_follyLine_115 : decode M_Mo_follyLine.2.1 115 = .ok (.iastore, 1) := by decide +kernel
theorem d_Mo_follyLine_116 : decode M_Mo_follyLine.2.1 116 = .ok (.aload_n 0, 1) := by decide +kernel
theorem d_Mo_follyLine_117 : decode M_Mo_follyLine.2.1 117 = .ok (.getfield 23, 3) := by decide +kernel
theorem d_Mo_follyLine_120 : decode M_Mo_follyLine.2.1 120 = .ok (.bipush 7, 2) := by decide +kernel
theorem d_Mo_follyLine_122 : decode M_Mo_follyLine.2.1 122 = .ok (.iconst 2, 1) := by decide +kernel
theorem d_Mo_follyLine_123 : decode M_Mo_follyLine.2.1 123 = .ok (.iload_n 1, 1) := by decide +kernel
theorem d_Mo_follyLine_124 : decode M_Mo_follyLine.2.1 124 = .ok (.imul, 1) := by decide +kernel
theorem d_Mo_follyLine_125 : decode M_Mo_follyLine.2.1 125 = .ok (.iadd, 1) := by decide +kernel
theorem d_Mo_follyLine_126 : decode M_Mo_follyLine.2.1 126 = .ok (.iconst 1, 1) := by decide +kernel
theorem d_Mo_follyLine_127 : decode M_Mo_follyLine.2.1 127 = .ok (.iadd, 1) := by decide +kernel
theorem d_Mo_follyLine_128 : decode M_Mo_follyLine.2.1 128 = .ok (.aload_n 0, 1) := by decide +kernel
theorem d_Mo_follyLine_129 : decode M_Mo_follyLine.2.1 129 = .ok (.ldc 226, 2) := by decide +kernel
theorem d_Mo_follyLine_131 : decode M_Mo_follyLine.2.1 131 = .ok (.iconst 0, 1) := by decide +kernel
theorem d_Mo_follyLine_132 : decode M_Mo_follyLine.2.1 132 = .ok (.bipush 99, 2) := by decide +kernel
theorem d_Mo_follyLine_134 : decode M_Mo_follyLine.2.1 134 = .ok (.invokevirtual 206, 3) := by decide +kernel
theorem d_Mo_follyLine_137 : decode M_Mo_follyLine.2.1 137 = .ok (.iastore, 1) := by decide +kernel
theorem d_Mo_follyLine_138 : decode M_Mo_follyLine.2.1 138 = .ok (.aload_n 0, 1) := by decide +kernel
theorem d_Mo_follyLine_139 : decode M_Mo_follyLine.2.1 139 = .ok (.getfield 91, 3) := by decide +kernel
theorem d_Mo_follyLine_142 : decode M_Mo_follyLine.2.1 142 = .ok (.ifCond .eq 4, 3) := by decide +kernel
theorem d_Mo_follyLine_145 : decode M_Mo_follyLine.2.1 145 = .ok (.return_, 1) := by decide +kernel
theorem d_Mo_follyLine_146 : decode M_Mo_follyLine.2.1 146 = .ok (.aload_n 0, 1) := by decide +kernel
theorem d_Mo_follyLine_147 : decode M_Mo_follyLine.2.1 147 = .ok (.getfield 29, 3) := by decide +kernel
theorem d_Mo_follyLine_150 : decode M_Mo_follyLine.2.1 150 = .ok (.iload_n 1, 1) := by decide +kernel
theorem d_Mo_follyLine_151 : decode M_Mo_follyLine.2.1 151 = .ok (.aload_n 0, 1) := by decide +kernel
theorem d_Mo_follyLine_152 : decode M_Mo_follyLine.2.1 152 = .ok (.getfield 23, 3) := by decide +kernel
theorem d_Mo_follyLine_155 : decode M_Mo_follyLine.2.1 155 = .ok (.bipush 7, 2) := by decide +kernel
theorem d_Mo_follyLine_157 : decode M_Mo_follyLine.2.1 157 = .ok (.iconst 2, 1) := by decide +kernel
theorem d_Mo_follyLine_158 : decode M_Mo_follyLine.2.1 158 = .ok (.iload_n 1, 1) := by decide +kernel
theorem d_Mo_follyLine_159 : decode M_Mo_follyLine.2.1 159 = .ok (.imul, 1) := by decide +kernel
theorem d_Mo_follyLine_160 : decode M_Mo_follyLine.2.1 160 = .ok (.iadd, 1) := by decide +kernel
theorem d_Mo_follyLine_161 : decode M_Mo_follyLine.2.1 161 = .ok (.iconst 1, 1) := by decide +kernel
theorem d_Mo_follyLine_162 : decode M_Mo_follyLine.2.1 162 = .ok (.iadd, 1) := by decide +kernel
theorem d_Mo_follyLine_163 : decode M_Mo_follyLine.2.1 163 = .ok (.iaload, 1) := by decide +kernel
theorem d_Mo_follyLine_164 : decode M_Mo_follyLine.2.1 164 = .ok (.iastore, 1) := by decide +kernel
theorem d_Mo_follyLine_165 : decode M_Mo_follyLine.2.1 165 = .ok (.aload_n 0, 1) := by decide +kernel
theorem d_Mo_follyLine_166 : decode M_Mo_follyLine.2.1 166 = .ok (.getfield 23, 3) := by decide +kernel
theorem d_Mo_follyLine_169 : decode M_Mo_follyLine.2.1 169 = .ok (.iconst 2, 1) := by decide +kernel
theorem d_Mo_follyLine_170 : decode M_Mo_follyLine.2.1 170 = .ok (.dup2, 1) := by decide +kernel
theorem d_Mo_follyLine_171 : decode M_Mo_follyLine.2.1 171 = .ok (.iaload, 1) := by decide +kernel
theorem d_Mo_follyLine_172 : decode M_Mo_follyLine.2.1 172 = .ok (.iconst 1, 1) := by decide +kernel
theorem d_Mo_follyLine_173 : decode M_Mo_follyLine.2.1 173 = .ok (.iadd, 1) := by decide +kernel
theorem d_Mo_follyLine_174 : decode M_Mo_follyLine.2.1 174 = .ok (.iastore, 1) := by decide +kernel
theorem d_Mo_follyLine_175 : decode M_Mo_follyLine.2.1 175 = .ok (.return_, 1) := by decide +kernel
theorem d_Mo_sendsLine_0 : decode M_Mo_sendsLine.2.1 0 = .ok (.aload_n 0, 1) := by decide +kernel
theorem d_Mo_sendsLine_1 : decode M_Mo_sendsLine.2.1 1 = .ok (.invokevirtual 228, 3) := by decide +kernel
theorem d_Mo_sendsLine_4 : decode M_Mo_sendsLine.2.1 4 = .ok (.istore_n 1, 1) := by decide +kernel
theorem d_Mo_sendsLine_5 : decode M_Mo_sendsLine.2.1 5 = .ok (.aload_n 0, 1) := by decide +kernel
theorem d_Mo_sendsLine_6 : decode M_Mo_sendsLine.2.1 6 = .ok (.getfield 91, 3) := by decide +kernel
theorem d_Mo_sendsLine_9 : decode M_Mo_sendsLine.2.1 9 = .ok (.ifCond .ne 24, 3) := by decide +kernel
theorem d_Mo_sendsLine_12 : decode M_Mo_sendsLine.2.1 12 = .ok (.aload_n 0, 1) := by decide +kernel
theorem d_Mo_sendsLine_13 : decode M_Mo_sendsLine.2.1 13 = .ok (.getfield 29, 3) := by decide +kernel
theorem d_Mo_sendsLine_16 : decode M_Mo_sendsLine.2.1 16 = .ok (.bipush 6, 2) := by decide +kernel
theorem d_Mo_sendsLine_18 : decode M_Mo_sendsLine.2.1 18 = .ok (.iload_n 1, 1) := by decide +kernel
theorem d_Mo_sendsLine_19 : decode M_Mo_sendsLine.2.1 19 = .ok (.iadd, 1) := by decide +kernel
theorem d_Mo_sendsLine_20 : decode M_Mo_sendsLine.2.1 20 = .ok (.iaload, 1) := by decide +kernel
theorem d_Mo_sendsLine_21 : decode M_Mo_sendsLine.2.1 21 = .ok (.ifCond .le 12, 3) := by decide +kernel
theorem d_Mo_sendsLine_24 : decode M_Mo_sendsLine.2.1 24 = .ok (.aload_n 0, 1) := by decide +kernel
theorem d_Mo_sendsLine_25 : decode M_Mo_sendsLine.2.1 25 = .ok (.iconst 3, 1) := by decide +kernel
theorem d_Mo_sendsLine_26 : decode M_Mo_sendsLine.2.1 26 = .ok (.aload_n 0, 1) := by decide +kernel
theorem d_Mo_sendsLine_27 : decode M_Mo_sendsLine.2.1 27 = .ok (.getfield 72, 3) := by decide +kernel
theorem d_Mo_sendsLine_30 : decode M_Mo_sendsLine.2.1 30 = .ok (.invokevirtual 118, 3) := by decide +kernel
theorem d_Mo_sendsLine_33 : decode M_Mo_sendsLine.2.1 33 = .ok (.aload_n 0, 1) := by decide +kernel
theorem d_Mo_sendsLine_34 : decode M_Mo_sendsLine.2.1 34 = .ok (.invokevirtual 176, 3) := by decide +kernel
theorem d_Mo_sendsLine_37 : decode M_Mo_sendsLine.2.1 37 = .ok (.aload_n 0, 1) := by decide +kernel
theorem d_Mo_sendsLine_38 : decode M_Mo_sendsLine.2.1 38 = .ok (.invokevirtual 228, 3) := by decide +kernel
theorem d_Mo_sendsLine_41 : decode M_Mo_sendsLine.2.1 41 = .ok (.istore_n 2, 1) := by decide +kernel
theorem d_Mo_sendsLine_42 : decode M_Mo_sendsLine.2.1 42 = .ok (.aload_n 0, 1) := by decide +kernel
theorem d_Mo_sendsLine_43 : decode M_Mo_sendsLine.2.1 43 = .ok (.getfield 91, 3) := by decide +kernel
theorem d_Mo_sendsLine_46 : decode M_Mo_sendsLine.2.1 46 = .ok (.ifCond .ne 17, 3) := by decide +kernel
theorem d_Mo_sendsLine_49 : decode M_Mo_sendsLine.2.1 49 = .ok (.iload_n 2, 1) := by decide +kernel
theorem d_Mo_sendsLine_50 : decode M_Mo_sendsLine.2.1 50 = .ok (.iload_n 1, 1) := by decide +kernel
theorem d_Mo_sendsLine_51 : decode M_Mo_sendsLine.2.1 51 = .ok (.if_icmp .ne 12, 3) := by decide +kernel
theorem d_Mo_sendsLine_54 : decode M_Mo_sendsLine.2.1 54 = .ok (.aload_n 0, 1) := by decide +kernel
theorem d_Mo_sendsLine_55 : decode M_Mo_sendsLine.2.1 55 = .ok (.iconst 3, 1) := by decide +kernel
theorem d_Mo_sendsLine_56 : decode M_Mo_sendsLine.2.1 56 = .ok (.aload_n 0, 1) := by decide +kernel
theorem d_Mo_sendsLine_57 : decode M_Mo_sendsLine.2.1 57 = .ok (.getfield 72, 3) := by decide +kernel
theorem d_Mo_sendsLine_60 : decode M_Mo_sendsLine.2.1 60 = .ok (.invokevirtual 118, 3) := by decide +kernel
theorem d_Mo_sendsLine_63 : decode M_Mo_sendsLine.2.1 63 = .ok (.aload_n 0, 1) := by decide +kernel
theorem d_Mo_sendsLine_64 : decode M_Mo_sendsLine.2.1 64 = .ok (.invokevirtual 176, 3) := by decide +kernel
theorem d_Mo_sendsLine_67 : decode M_Mo_sendsLine.2.1 67 = .ok (.aload_n 0, 1) := by decide +kernel
theorem d_Mo_sendsLine_68 : decode M_Mo_sendsLine.2.1 68 = .ok (.getfield 91, 3) := by decide +kernel
theorem d_Mo_sendsLine_71 : decode M_Mo_sendsLine.2.1 71 = .ok (.ifCond .ne 15, 3) := by decide +kernel
theorem d_Mo_sendsLine_74 : decode M_Mo_sendsLine.2.1 74 = .ok (.aload_n 0, 1) := by decide +kernel
theorem d_Mo_sendsLine_75 : decode M_Mo_sendsLine.2.1 75 = .ok (.getfield 29, 3) := by decide +kernel
theorem d_Mo_sendsLine_78 : decode M_Mo_sendsLine.2.1 78 = .ok (.bipush 6, 2) := by decide +kernel
theorem d_Mo_sendsLine_80 : decode M_Mo_sendsLine.2.1 80 = .ok (.iload_n 1, 1) := by decide +kernel
theorem d_Mo_sendsLine_81 : decode M_Mo_sendsLine.2.1 81 = .ok (.iadd, 1) := by decide +kernel
theorem d_Mo_sendsLine_82 : decode M_Mo_sendsLine.2.1 82 = .ok (.iload_n 2, 1) := by decide +kernel
theorem d_Mo_sendsLine_83 : decode M_Mo_sendsLine.2.1 83 = .ok (.iconst 1, 1) := by decide +kernel
theorem d_Mo_sendsLine_84 : decode M_Mo_sendsLine.2.1 84 = .ok (.iadd, 1) := by decide +kernel
theorem d_Mo_sendsLine_85 : decode M_Mo_sendsLine.2.1 85 = .ok (.iastore, 1) := by decide +kernel
theorem d_Mo_sendsLine_86 : decode M_Mo_sendsLine.2.1 86 = .ok (.return_, 1) := by decide +kernel
theorem d_Mo_hermitLine_0 : decode M_Mo_hermitLine.2.1 0 = .ok (.aload_n 0, 1) := by decide +kernel
theorem d_Mo_hermitLine_1 : decode M_Mo_hermitLine.2.1 1 = .ok (.invokevirtual 228, 3) := by decide +kernel
theorem d_Mo_hermitLine_4 : decode M_Mo_hermitLine.2.1 4 = .ok (.istore_n 1, 1) := by decide +kernel
theorem d_Mo_hermitLine_5 : decode M_Mo_hermitLine.2.1 5 = .ok (.aload_n 0, 1) := by decide +kernel
theorem d_Mo_hermitLine_6 : decode M_Mo_hermitLine.2.1 6 = .ok (.getfield 91, 3) := by decide +kernel
theorem d_Mo_hermitLine_9 : decode M_Mo_hermitLine.2.1 9 = .ok (.ifCond .ne 26, 3) := by decide +kernel
theorem d_Mo_hermitLine_12 : decode M_Mo_hermitLine.2.1 12 = .ok (.aload_n 0, 1) := by decide +kernel
theorem d_Mo_hermitLine_13 : decode M_Mo_hermitLine.2.1 13 = .ok (.getfield 29, 3) := by decide +kernel
theorem d_Mo_hermitLine_16 : decode M_Mo_hermitLine.2.1 16 = .ok (.bipush 12, 2) := by decide +kernel
theorem d_Mo_hermitLine_18 : decode M_Mo_hermitLine.2.1 18 = .ok (.iaload, 1) := by decide +kernel
theorem d_Mo_hermitLine_19 : decode M_Mo_hermitLine.2.1 19 = .ok (.iload_n 1, 1) := by decide +kernel
theorem d_Mo_hermitLine_20 : decode M_Mo_hermitLine.2.1 20 = .ok (.invokestatic 231, 3) := by decide +kernel
theorem d_Mo_hermitLine_23 : decode M_Mo_hermitLine.2.1 23 = .ok (.ifCond .eq 12, 3) := by decide +kernel
theorem d_Mo_hermitLine_26 : decode M_Mo_hermitLine.2.1 26 = .ok (.aload_n 0, 1) := by decide +kernel
theorem d_Mo_hermitLine_27 : decode M_Mo_hermitLine.2.1 27 = .ok (.iconst 3, 1) := by decide +kernel
theorem d_Mo_hermitLine_28 : decode M_Mo_hermitLine.2.1 28 = .ok (.aload_n 0, 1) := by decide +kernel
theorem d_Mo_hermitLine_29 : decode M_Mo_hermitLine.2.1 29 = .ok (.getfield 72, 3) := by decide +kernel
theorem d_Mo_hermitLine_32 : decode M_Mo_hermitLine.2.1 32 = .ok (.invokevirtual 118, 3) := by decide +kernel
theorem d_Mo_hermitLine_35 : decode M_Mo_hermitLine.2.1 35 = .ok (.aload_n 0, 1) := by decide +kernel
theorem d_Mo_hermitLine_36 : decode M_Mo_hermitLine.2.1 36 = .ok (.invokevirtual 176, 3) := by decide +kernel
theorem d_Mo_hermitLine_39 : decode M_Mo_hermitLine.2.1 39 = .ok (.aload_n 0, 1) := by decide +kernel
theorem d_Mo_hermitLine_40 : decode M_Mo_hermitLine.2.1 40 = .ok (.getfield 91, 3) := by decide +kernel
theorem d_Mo_hermitLine_43 : decode M_Mo_hermitLine.2.1 43 = .ok (.ifCond .ne 16, 3) := by decide +kernel
theorem d_Mo_hermitLine_46 : decode M_Mo_hermitLine.2.1 46 = .ok (.aload_n 0, 1) := by decide +kernel
theorem d_Mo_hermitLine_47 : decode M_Mo_hermitLine.2.1 47 = .ok (.getfield 29, 3) := by decide +kernel
theorem d_Mo_hermitLine_50 : decode M_Mo_hermitLine.2.1 50 = .ok (.bipush 12, 2) := by decide +kernel
theorem d_Mo_hermitLine_52 : decode M_Mo_hermitLine.2.1 52 = .ok (.dup2, 1) := by decide +kernel
theorem d_Mo_hermitLine_53 : decode M_Mo_hermitLine.2.1 53 = .ok (.iaload, 1) := by decide +kernel
theorem d_Mo_hermitLine_54 : decode M_Mo_hermitLine.2.1 54 = .ok (.iconst 1, 1) := by decide +kernel
theorem d_Mo_hermitLine_55 : decode M_Mo_hermitLine.2.1 55 = .ok (.iload_n 1, 1) := by decide +kernel
theorem d_Mo_hermitLine_56 : decode M_Mo_hermitLine.2.1 56 = .ok (.ishl, 1) := by decide +kernel
theorem d_Mo_hermitLine_57 : decode M_Mo_hermitLine.2.1 57 = .ok (.ior, 1) := by decide +kernel
theorem d_Mo_hermitLine_58 : decode M_Mo_hermitLine.2.1 58 = .ok (.iastore, 1) := by decide +kernel
theorem d_Mo_hermitLine_59 : decode M_Mo_hermitLine.2.1 59 = .ok (.return_, 1) := by decide +kernel
theorem d_Mo_estateLine_0 : decode M_Mo_estateLine.2.1 0 = .ok (.aload_n 0, 1) := by decide +kernel
theorem d_Mo_estateLine_1 : decode M_Mo_estateLine.2.1 1 = .ok (.getfield 91, 3) := by decide +kernel
theorem d_Mo_estateLine_4 : decode M_Mo_estateLine.2.1 4 = .ok (.ifCond .eq 4, 3) := by decide +kernel
theorem d_Mo_estateLine_7 : decode M_Mo_estateLine.2.1 7 = .ok (.return_, 1) := by decide +kernel
theorem d_Mo_estateLine_8 : decode M_Mo_estateLine.2.1 8 = .ok (.bipush 19, 2) := by decide +kernel
theorem d_Mo_estateLine_10 : decode M_Mo_estateLine.2.1 10 = .ok (.iconst 2, 1) := by decide +kernel
theorem d_Mo_estateLine_11 : decode M_Mo_estateLine.2.1 11 = .ok (.aload_n 0, 1) := by decide +kernel
theorem d_Mo_estateLine_12 : decode M_Mo_estateLine.2.1 12 = .ok (.getfield 23, 3) := by decide +kernel
theorem d_Mo_estateLine_15 : decode M_Mo_estateLine.2.1 15 = .ok (.iconst 3, 1) := by decide +kernel
theorem d_Mo_estateLine_16 : decode M_Mo_estateLine.2.1 16 = .ok (.iaload, 1) := by decide +kernel
theorem d_Mo_estateLine_17 : decode M_Mo_estateLine.2.1 17 = .ok (.imul, 1) := by decide +kernel
theorem d_Mo_estateLine_18 : decode M_Mo_estateLine.2.1 18 = .ok (.iadd, 1) := by decide +kernel
theorem d_Mo_estateLine_19 : decode M_Mo_estateLine.2.1 19 = .ok (.istore_n 1, 1) := by decide +kernel
theorem d_Mo_estateLine_20 : decode M_Mo_estateLine.2.1 20 = .ok (.aload_n 0, 1) := by decide +kernel
theorem d_Mo_estateLine_21 : decode M_Mo_estateLine.2.1 21 = .ok (.bipush 6, 2) := by decide +kernel
theorem d_Mo_estateLine_23 : decode M_Mo_estateLine.2.1 23 = .ok (.aload_n 0, 1) := by decide +kernel
theorem d_Mo_estateLine_24 : decode M_Mo_estateLine.2.1 24 = .ok (.getfield 23, 3) := by decide +kernel
theorem d_Mo_estateLine_27 : decode M_Mo_estateLine.2.1 27 = .ok (.iconst 3, 1) := by decide +kernel
theorem d_Mo_estateLine_28 : decode M_Mo_estateLine.2.1 28 = .ok (.iaload, 1) := by decide +kernel
theorem d_Mo_estateLine_29 : decode M_Mo_estateLine.2.1 29 = .ok (.iadd, 1) := by decide +kernel
theorem d_Mo_estateLine_30 : decode M_Mo_estateLine.2.1 30 = .ok (.invokevirtual 212, 3) := by decide +kernel
theorem d_Mo_estateLine_33 : decode M_Mo_estateLine.2.1 33 = .ok (.aload_n 0, 1) := by decide +kernel
theorem d_Mo_estateLine_34 : decode M_Mo_estateLine.2.1 34 = .ok (.getfield 23, 3) := by decide +kernel
theorem d_Mo_estateLine_37 : decode M_Mo_estateLine.2.1 37 = .ok (.iload_n 1, 1) := by decide +kernel
theorem d_Mo_estateLine_38 : decode M_Mo_estateLine.2.1 38 = .ok (.aload_n 0, 1) := by decide +kernel
theorem d_Mo_estateLine_39 : decode M_Mo_estateLine.2.1 39 = .ok (.invokevirtual 228, 3) := by decide +kernel
theorem d_Mo_estateLine_42 : decode M_Mo_estateLine.2.1 42 = .ok (.iastore, 1) := by decide +kernel
theorem d_Mo_estateLine_43 : decode M_Mo_estateLine.2.1 43 = .ok (.aload_n 0, 1) := by decide +kernel
theorem d_Mo_estateLine_44 : decode M_Mo_estateLine.2.1 44 = .ok (.invokevirtual 176, 3) := by decide +kernel
theorem d_Mo_estateLine_47 : decode M_Mo_estateLine.2.1 47 = .ok (.aload_n 0, 1) := by decide +kernel
theorem d_Mo_estateLine_48 : decode M_Mo_estateLine.2.1 48 = .ok (.getfield 23, 3) := by decide +kernel
theorem d_Mo_estateLine_51 : decode M_Mo_estateLine.2.1 51 = .ok (.iload_n 1, 1) := by decide +kernel
theorem d_Mo_estateLine_52 : decode M_Mo_estateLine.2.1 52 = .ok (.iconst 1, 1) := by decide +kernel
theorem d_Mo_estateLine_53 : decode M_Mo_estateLine.2.1 53 = .ok (.iadd, 1) := by decide +kernel
theorem d_Mo_estateLine_54 : decode M_Mo_estateLine.2.1 54 = .ok (.aload_n 0, 1) := by decide +kernel
theorem d_Mo_estateLine_55 : decode M_Mo_estateLine.2.1 55 = .ok (.ldc 235, 2) := by decide +kernel
theorem d_Mo_estateLine_57 : decode M_Mo_estateLine.2.1 57 = .ok (.iconst 0, 1) := by decide +kernel
theorem d_Mo_estateLine_58 : decode M_Mo_estateLine.2.1 58 = .ok (.bipush 99, 2) := by decide +kernel
theorem d_Mo_estateLine_60 : decode M_Mo_estateLine.2.1 60 = .ok (.invokevirtual 206, 3) := by decide +kernel
theorem d_Mo_estateLine_63 : decode M_Mo_estateLine.2.1 63 = .ok (.iastore, 1) := by decide +kernel
theorem d_Mo_estateLine_64 : decode M_Mo_estateLine.2.1 64 = .ok (.aload_n 0, 1) := by decide +kernel
theorem d_Mo_estateLine_65 : decode M_Mo_estateLine.2.1 65 = .ok (.getfield 91, 3) := by decide +kernel
theorem d_Mo_estateLine_68 : decode M_Mo_estateLine.2.1 68 = .ok (.ifCond .ne 13, 3) := by decide +kernel
theorem d_Mo_estateLine_71 : decode M_Mo_estateLine.2.1 71 = .ok (.aload_n 0, 1) := by decide +kernel
theorem d_Mo_estateLine_72 : decode M_Mo_estateLine.2.1 72 = .ok (.getfield 23, 3) := by decide +kernel
theorem d_Mo_estateLine_75 : decode M_Mo_estateLine.2.1 75 = .ok (.iconst 3, 1) := by decide +kernel
theorem d_Mo_estateLine_76 : decode M_Mo_estateLine.2.1 76 = .ok (.dup2, 1) := by decide +kernel
theorem d_Mo_estateLine_77 : decode M_Mo_estateLine.2.1 77 = .ok (.iaload, 1) := by decide +kernel
theorem d_Mo_estateLine_78 : decode M_Mo_estateLine.2.1 78 = .ok (.iconst 1, 1) := by decide +kernel
theorem d_Mo_estateLine_79 : decode M_Mo_estateLine.2.1 79 = .ok (.iadd, 1) := by decide +kernel
theorem d_Mo_estateLine_80 : decode M_Mo_estateLine.2.1 80 = .ok (.iastore, 1) := by decide +kernel
theorem d_Mo_estateLine_81 : decode M_Mo_estateLine.2.1 81 = .ok (.return_, 1) := by decide +kernel
set_option maxRecDepth 4000 in
theorem t_Mo_number {d : Nat} {I : Nat → Nat → Int32} {J : Nat → Nat → Int64} {R : Nat → Nat → Option Nat} {Q : Option Value → ow_H → Prop} {p1 : Int32} {p2 : Int32}  (hR : ow_RF R) (T : (((I 70 13) = 0 → (((I 70 6) = 3 → (ow_AM M_Mo_in d [.int (I 70 7), .int p1, .int p2] (85, I, J, R) (fun r h' => ∃ (r7 : Int32) (I7 : Nat → Nat → Int32) (J7 : Nat → Nat → Int64) (R7 : Nat → Nat → Option Nat), r = some (.int r7) ∧ h' = (85, I7, J7, R7) ∧ ow_RF R7 ∧ ((¬ r7 = 0 → (((I7 70 13) = 0 → (ow_AM M_Mo_next d [.ref 70] (85, I7, J7, R7) (fun r h' => ∃ (I8 : Nat → Nat → Int32) (J8 : Nat → Nat → Int64) (R8 : Nat → Nat → Option Nat), r = none ∧ h' = (85, I8, J8, R8) ∧ ow_RF R8 ∧ Q (some (.int (I7 70 7))) (85, I8, J8, R8)))) ∧ (¬ (I7 70 13) = 0 → Q (some (.int p1)) (85, I7, J7, R7)))) ∧ (r7 = 0 → (ow_AM M_Mo_wrong d [.ref 70, .int 4, .int (I7 70 4)] (85, I7, J7, R7) (fun r h' => ∃ (I9 : Nat → Nat → Int32) (J9 : Nat → Nat → Int64) (R9 : Nat → Nat → Option Nat), r = none ∧ h' = (85, I9, J9, R9) ∧ ow_RF R9 ∧ (((I9 70 13) = 0 → (ow_AM M_Mo_next d [.ref 70] (85, I9, J9, R9) (fun r h' => ∃ (I10 : Nat → Nat → Int32) (J10 : Nat → Nat → Int64) (R10 : Nat → Nat → Option Nat), r = none ∧ h' = (85, I10, J10, R10) ∧ ow_RF R10 ∧ Q (some (.int (I9 70 7))) (85, I10, J10, R10)))) ∧ (¬ (I9 70 13) = 0 → Q (some (.int p1)) (85, I9, J9, R9)))))))))) ∧ (¬ (I 70 6) = 3 → (ow_AM M_Mo_wrong d [.ref 70, .int 1, .int (I 70 4)] (85, I, J, R) (fun r h' => ∃ (I11 : Nat → Nat → Int32) (J11 : Nat → Nat → Int64) (R11 : Nat → Nat → Option Nat), r = none ∧ h' = (85, I11, J11, R11) ∧ ow_RF R11 ∧ (((I11 70 13) = 0 → (ow_AM M_Mo_next d [.ref 70] (85, I11, J11, R11) (fun r h' => ∃ (I12 : Nat → Nat → Int32) (J12 : Nat → Nat → Int64) (R12 : Nat → Nat → Option Nat), r = none ∧ h' = (85, I12, J12, R12) ∧ ow_RF R12 ∧ Q (some (.int (I11 70 7))) (85, I12, J12, R12)))) ∧ (¬ (I11 70 13) = 0 → Q (some (.int p1)) (85, I11, J11, R11)))))))) ∧ (¬ (I 70 13) = 0 → Q (some (.int p1)) (85, I, J, R)))) : ow_AM M_Mo_number (d + 1) [.ref 70, .int p1, .int p2] (85, I, J, R) Q := by
  refine ow_enter (by decide) (Nat.le_of_ble_eq_true rfl) ?_
  show ow_AW ow_Y0 (ow_Z Q) M_Mo_number (d + 1) 0 0 0 [(0, .ref 70), (1, .int p1), (2, .int p2)] [] (85, I, J, R) 0 0
  refine ow_aload_n 0 rfl d_Mo_number_0 ?_
  refine ow_gI 182 d_Mo_number_1 rfl rfl (by decide) rfl (Or.inr rfl) ?_
  refine ow_if_eq (tgt := 9) d_Mo_number_4 (by decide) (fun c => ?_) (fun c => ?_)
  · replace T := T.1 c
    refine ow_aload_n 0 rfl d_Mo_number_9 ?_
    refine ow_gI 175 d_Mo_number_10 rfl rfl (by decide) rfl (Or.inl rfl) ?_
    refine ow_iconst (v := 3) (by decide) d_Mo_number_13 ?_
    refine ow_icmp_eq (tgt := 29) d_Mo_number_14 (by decide) (fun c => ?_) (fun c => ?_)
    · replace T := T.1 c
      refine ow_aload_n 0 rfl d_Mo_number_29 ?_
      refine ow_gI 176 d_Mo_number_30 rfl rfl (by decide) rfl (Or.inl rfl) ?_
      refine ow_iload_n 1 rfl d_Mo_number_33 ?_
      refine ow_iload_n 2 rfl d_Mo_number_34 ?_
      refine ow_callS (As := [.int (I 70 7), .int p1, .int p2]) (rest := []) (d2 := d) d_Mo_number_35 l_Mo_142 v_Mo_in (Nat.le_of_ble_eq_true rfl) (Nat.le_refl _) ⟨Nat.le_refl _, Nat.le_refl _⟩ (ow_mono T ?_)
      rintro r h' ⟨r7, I7, J7, R7, rfl, rfl, hR7, T⟩
      show ow_AW ow_Y0 (ow_Z Q) M_Mo_number (d + 1) 0 0 38 [(0, .ref 70), (1, .int p1), (2, .int p2)] [.int r7] (85, I7, J7, R7) 0 0
      refine ow_if_ne (tgt := 50) d_Mo_number_38 (by decide) (fun c => ?_) (fun c => ?_)
      · replace T := T.1 c
        refine ow_aload_n 0 rfl d_Mo_number_50 ?_
        refine ow_gI 182 d_Mo_number_51 rfl rfl (by decide) rfl (Or.inr rfl) ?_
        refine ow_if_eq (tgt := 59) d_Mo_number_54 (by decide) (fun c => ?_) (fun c => ?_)
        · replace T := T.1 c
          refine ow_aload_n 0 rfl d_Mo_number_59 ?_
          refine ow_gI 176 d_Mo_number_60 rfl rfl (by decide) rfl (Or.inl rfl) ?_
          refine ow_istore_n (ls2 := [(3, .int (I7 70 7)), (0, .ref 70), (1, .int p1), (2, .int p2)]) d_Mo_number_63 (by decide) rfl ?_
          refine ow_aload_n 1 rfl d_Mo_number_64 ?_
          refine ow_callV (b := 70) (cq := 12) (As := []) (rest := []) (d2 := d) d_Mo_number_65 l_Mo_112 v_Mo_next (show 70 < 85 by decide) rfl (by decide) rfl (Nat.le_of_ble_eq_true rfl) (Nat.le_refl _) ⟨Nat.le_refl _, Nat.le_refl _⟩ (ow_mono T ?_)
          rintro r h' ⟨I8, J8, R8, rfl, rfl, hR8, T⟩
          show ow_AW ow_Y0 (ow_Z Q) M_Mo_number (d + 1) 0 0 68 [(3, .int (I7 70 7)), (0, .ref 70), (1, .int p1), (2, .int p2)] [] (85, I8, J8, R8) 0 0
          refine ow_iload_n 0 rfl d_Mo_number_68 ?_
          exact ow_iret d_Mo_number_69 rfl T
        · replace T := T.2 c
          refine ow_iload_n 1 rfl d_Mo_number_57 ?_
          exact ow_iret d_Mo_number_58 rfl T
      · replace T := T.2 c
        refine ow_aload_n 0 rfl d_Mo_number_41 ?_
        refine ow_iconst (v := 4) (by decide) d_Mo_number_42 ?_
        refine ow_aload_n 0 rfl d_Mo_number_43 ?_
        refine ow_gI 173 d_Mo_number_44 rfl rfl (by decide) rfl (Or.inl rfl) ?_
        refine ow_callV (b := 70) (cq := 12) (As := [.int 4, .int (I7 70 4)]) (rest := []) (d2 := d) d_Mo_number_47 l_Mo_118 v_Mo_wrong (show 70 < 85 by decide) rfl (by decide) rfl (Nat.le_of_ble_eq_true rfl) (Nat.le_refl _) ⟨Nat.le_refl _, Nat.le_refl _⟩ (ow_mono T ?_)
        rintro r h' ⟨I9, J9, R9, rfl, rfl, hR9, T⟩
        show ow_AW ow_Y0 (ow_Z Q) M_Mo_number (d + 1) 0 0 50 [(0, .ref 70), (1, .int p1), (2, .int p2)] [] (85, I9, J9, R9) 0 0
        refine ow_aload_n 0 rfl d_Mo_number_50 ?_
        refine ow_gI 182 d_Mo_number_51 rfl rfl (by decide) rfl (Or.inr rfl) ?_
        refine ow_if_eq (tgt := 59) d_Mo_number_54 (by decide) (fun c => ?_) (fun c => ?_)
        · replace T := T.1 c
          refine ow_aload_n 0 rfl d_Mo_number_59 ?_
          refine ow_gI 176 d_Mo_number_60 rfl rfl (by decide) rfl (Or.inl rfl) ?_
          refine ow_istore_n (ls2 := [(3, .int (I9 70 7)), (0, .ref 70), (1, .int p1), (2, .int p2)]) d_Mo_number_63 (by decide) rfl ?_
          refine ow_aload_n 1 rfl d_Mo_number_64 ?_
          refine ow_callV (b := 70) (cq := 12) (As := []) (rest := []) (d2 := d) d_Mo_number_65 l_Mo_112 v_Mo_next (show 70 < 85 by decide) rfl (by decide) rfl (Nat.le_of_ble_eq_true rfl) (Nat.le_refl _) ⟨Nat.le_refl _, Nat.le_refl _⟩ (ow_mono T ?_)
          rintro r h' ⟨I10, J10, R10, rfl, rfl, hR10, T⟩
          show ow_AW ow_Y0 (ow_Z Q) M_Mo_number (d + 1) 0 0 68 [(3, .int (I9 70 7)), (0, .ref 70), (1, .int p1), (2, .int p2)] [] (85, I10, J10, R10) 0 0
          refine ow_iload_n 0 rfl d_Mo_number_68 ?_
          exact ow_iret d_Mo_number_69 rfl T
        · replace T := T.2 c
          refine ow_iload_n 1 rfl d_Mo_number_57 ?_
          exact ow_iret d_Mo_number_58 rfl T
    · replace T := T.2 c
      refine ow_aload_n 0 rfl d_Mo_number_17 ?_
      refine ow_iconst (v := 1) (by decide) d_Mo_number_18 ?_
      refine ow_aload_n 0 rfl d_Mo_number_19 ?_
      refine ow_gI 173 d_Mo_number_20 rfl rfl (by decide) rfl (Or.inl rfl) ?_
      refine ow_callV (b := 70) (cq := 12) (As := [.int 1, .int (I 70 4)]) (rest := []) (d2 := d) d_Mo_number_23 l_Mo_118 v_Mo_wrong (show 70 < 85 by decide) rfl (by decide) rfl (Nat.le_of_ble_eq_true rfl) (Nat.le_refl _) ⟨Nat.le_refl _, Nat.le_refl _⟩ (ow_mono T ?_)
      rintro r h' ⟨I11, J11, R11, rfl, rfl, hR11, T⟩
      show ow_AW ow_Y0 (ow_Z Q) M_Mo_number (d + 1) 0 0 26 [(0, .ref 70), (1, .int p1), (2, .int p2)] [] (85, I11, J11, R11) 0 0
      refine ow_goto (tgt := 50) d_Mo_number_26 (by decide) ?_
      refine ow_aload_n 0 rfl d_Mo_number_50 ?_
      refine ow_gI 182 d_Mo_number_51 rfl rfl (by decide) rfl (Or.inr rfl) ?_
      refine ow_if_eq (tgt := 59) d_Mo_number_54 (by decide) (fun c => ?_) (fun c => ?_)
      · replace T := T.1 c
        refine ow_aload_n 0 rfl d_Mo_number_59 ?_
        refine ow_gI 176 d_Mo_number_60 rfl rfl (by decide) rfl (Or.inl rfl) ?_
        refine ow_istore_n (ls2 := [(3, .int (I11 70 7)), (0, .ref 70), (1, .int p1), (2, .int p2)]) d_Mo_number_63 (by decide) rfl ?_
        refine ow_aload_n 1 rfl d_Mo_number_64 ?_
        refine ow_callV (b := 70) (cq := 12) (As := []) (rest := []) (d2 := d) d_Mo_number_65 l_Mo_112 v_Mo_next (show 70 < 85 by decide) rfl (by decide) rfl (Nat.le_of_ble_eq_true rfl) (Nat.le_refl _) ⟨Nat.le_refl _, Nat.le_refl _⟩ (ow_mono T ?_)
        rintro r h' ⟨I12, J12, R12, rfl, rfl, hR12, T⟩
        show ow_AW ow_Y0 (ow_Z Q) M_Mo_number (d + 1) 0 0 68 [(3, .int (I11 70 7)), (0, .ref 70), (1, .int p1), (2, .int p2)] [] (85, I12, J12, R12) 0 0
        refine ow_iload_n 0 rfl d_Mo_number_68 ?_
        exact ow_iret d_Mo_number_69 rfl T
      · replace T := T.2 c
        refine ow_iload_n 1 rfl d_Mo_number_57 ?_
        exact ow_iret d_Mo_number_58 rfl T
  · replace T := T.2 c
    refine ow_iload_n 1 rfl d_Mo_number_7 ?_
    exact ow_iret d_Mo_number_8 rfl T
set_option maxRecDepth 4000 in
theorem t_Mo_after {d : Nat} {I : Nat → Nat → Int32} {J : Nat → Nat → Int64} {R : Nat → Nat → Option Nat} {Q : Option Value → ow_H → Prop} {i : Nat} {p1 : Int32} {p2 : Int32} (hi : i < ow_ns) (hR : ow_RF R) (T : (ow_AM M_Mo_must d [.ref 70, .ref (1000 + i)] (85, I, J, R) (fun r h' => ∃ (I3 : Nat → Nat → Int32) (J3 : Nat → Nat → Int64) (R3 : Nat → Nat → Option Nat), r = none ∧ h' = (85, I3, J3, R3) ∧ ow_RF R3 ∧ (ow_AM M_Mo_number d [.ref 70, .int p1, .int p2] (85, I3, J3, R3) (fun r h' => ∃ (r4 : Int32) (I4 : Nat → Nat → Int32) (J4 : Nat → Nat → Int64) (R4 : Nat → Nat → Option Nat), r = some (.int r4) ∧ h' = (85, I4, J4, R4) ∧ ow_RF R4 ∧ Q (some (.int r4)) (85, I4, J4, R4)))))) : ow_AM M_Mo_after (d + 1) [.ref 70, .ref (1000 + i), .int p1, .int p2] (85, I, J, R) Q := by
  refine ow_enter (by decide) (Nat.le_of_ble_eq_true rfl) ?_
  show ow_AW ow_Y0 (ow_Z Q) M_Mo_after (d + 1) 0 0 0 [(0, .ref 70), (1, .ref (1000 + i)), (2, .int p1), (3, .int p2)] [] (85, I, J, R) 0 0
  refine ow_aload_n 0 rfl d_Mo_after_0 ?_
  refine ow_aload_n 1 rfl d_Mo_after_1 ?_
  refine ow_callV (b := 70) (cq := 12) (As := [.ref (1000 + i)]) (rest := []) (d2 := d) d_Mo_after_2 l_Mo_146 v_Mo_must (show 70 < 85 by decide) rfl (by decide) rfl (Nat.le_of_ble_eq_true rfl) (Nat.le_refl _) ⟨Nat.le_refl _, Nat.le_refl _⟩ (ow_mono T ?_)
  rintro r h' ⟨I3, J3, R3, rfl, rfl, hR3, T⟩
  show ow_AW ow_Y0 (ow_Z Q) M_Mo_after (d + 1) 0 0 5 [(0, .ref 70), (1, .ref (1000 + i)), (2, .int p1), (3, .int p2)] [] (85, I3, J3, R3) 0 0
  refine ow_aload_n 0 rfl d_Mo_after_5 ?_
  refine ow_iload_n 2 rfl d_Mo_after_6 ?_
  refine ow_iload_n 3 rfl d_Mo_after_7 ?_
  refine ow_callV (b := 70) (cq := 12) (As := [.int p1, .int p2]) (rest := []) (d2 := d) d_Mo_after_8 l_Mo_150 v_Mo_number (show 70 < 85 by decide) rfl (by decide) rfl (Nat.le_of_ble_eq_true rfl) (Nat.le_refl _) ⟨Nat.le_refl _, Nat.le_refl _⟩ (ow_mono T ?_)
  rintro r h' ⟨r4, I4, J4, R4, rfl, rfl, hR4, T⟩
  show ow_AW ow_Y0 (ow_Z Q) M_Mo_after (d + 1) 0 0 11 [(0, .ref 70), (1, .ref (1000 + i)), (2, .int p1), (3, .int p2)] [.int r4] (85, I4, J4, R4) 0 0
  exact ow_iret d_Mo_after_11 rfl T
set_option maxRecDepth 4000 in
theorem t_Mo_shire_39 {d : Nat} {I : Nat → Nat → Int32} {J : Nat → Nat → Int64} {R : Nat → Nat → Option Nat} {Q : Option Value → ow_H → Prop}  {v1 : Int32} {v2 : Int32}  (hR : ow_RF R) (T : ((146 ≤ v2 → ow_AW ow_Y0 (ow_Z Q) M_Mo_shire (d + 1) 0 0 61 [(0, .ref 70), (1, .int v1), (2, .int 0)] [] (85, I, J, R) 0 0) ∧ (¬ 146 ≤ v2 → (vp_in v2 146 ∧ (∀ (I7 : Nat → Nat → Int32), I7 = ow_u I 74 (v2.toNatClampNeg) 0 → ow_AW ow_Y0 (ow_Z Q) M_Mo_shire (d + 1) 0 0 39 [(0, .ref 70), (1, .int v1), (2, .int (v2 + 1))] [] (85, I7, J, R) 0 0))))) : ow_AW ow_Y0 (ow_Z Q) M_Mo_shire (d + 1) 0 0 39 [(0, .ref 70), (1, .int v1), (2, .int v2)] [] (85, I, J, R) 0 0 := by
  refine ow_iload_n 2 rfl d_Mo_shire_39 ?_
  refine ow_sipush (v := 146) (by decide) d_Mo_shire_40 ?_
  refine ow_icmp_ge (tgt := 59) d_Mo_shire_43 (by decide) (fun c => ?_) (fun c => ?_)
  · replace T := T.1 c
    refine ow_iconst (v := 0) (by decide) d_Mo_shire_59 ?_
    refine ow_istore_n (ls2 := [(2, .int 0), (0, .ref 70), (1, .int v1)]) d_Mo_shire_60 (by decide) rfl ?_
    refine ow_sub [1, 2, 0] rfl ?_
    exact T
  · replace T := T.2 c
    refine ow_aload_n 0 rfl d_Mo_shire_46 ?_
    refine ow_gR (a := 74) 185 d_Mo_shire_47 rfl rfl (by decide) rfl ⟨rfl, hR 70 16 (by decide)⟩ ?_
    refine ow_iload_n 2 rfl d_Mo_shire_50 ?_
    refine ow_iconst (v := 0) (by decide) d_Mo_shire_51 ?_
    obtain ⟨cI, T⟩ := T
    refine ow_hiastore d_Mo_shire_52 (by decide) rfl rfl cI ?_
    obtain ⟨I7, eI7⟩ : ∃ uu, uu = ow_u I 74 (v2.toNatClampNeg) 0 := ⟨_, rfl⟩
    replace T := T I7 eI7
    rw [← eI7]
    refine ow_iinc 2 (v := (v2 + 1)) (ls2 := [(2, .int (v2 + 1)), (0, .ref 70), (1, .int v1)]) d_Mo_shire_53 rfl rfl (by decide) rfl ?_
    refine ow_goto (tgt := 39) d_Mo_shire_56 (by decide) ?_
    refine ow_sub [1, 2, 0] rfl ?_
    exact T
set_option maxRecDepth 4000 in
theorem t_Mo_shire_61 {d : Nat} {I : Nat → Nat → Int32} {J : Nat → Nat → Int64} {R : Nat → Nat → Option Nat} {Q : Option Value → ow_H → Prop}  {v1 : Int32} {v2 : Int32}  (hR : ow_RF R) (T : ((14 ≤ v2 → (∀ (I8 : Nat → Nat → Int32), I8 = ow_u I 70 3 v1 → (∀ (I9 : Nat → Nat → Int32), I9 = ow_u I8 70 5 0 → (ow_AM M_Mo_next d [.ref 70] (85, I9, J, R) (fun r h' => ∃ (I10 : Nat → Nat → Int32) (J10 : Nat → Nat → Int64) (R10 : Nat → Nat → Option Nat), r = none ∧ h' = (85, I10, J10, R10) ∧ ow_RF R10 ∧ (ow_AM M_Mo_readLine d [.ref 70] (85, I10, J10, R10) (fun r h' => ∃ (I11 : Nat → Nat → Int32) (J11 : Nat → Nat → Int64) (R11 : Nat → Nat → Option Nat), r = none ∧ h' = (85, I11, J11, R11) ∧ ow_RF R11 ∧ ow_AW ow_Y0 (ow_Z Q) M_Mo_shire (d + 1) 0 0 98 [(0, .ref 70)] [] (85, I11, J11, R11) 0 0))))))) ∧ (¬ 14 ≤ v2 → (vp_in v2 14 ∧ (∀ (I12 : Nat → Nat → Int32), I12 = ow_u I 76 (v2.toNatClampNeg) 0 → ow_AW ow_Y0 (ow_Z Q) M_Mo_shire (d + 1) 0 0 61 [(0, .ref 70), (1, .int v1), (2, .int (v2 + 1))] [] (85, I12, J, R) 0 0))))) : ow_AW ow_Y0 (ow_Z Q) M_Mo_shire (d + 1) 0 0 61 [(0, .ref 70), (1, .int v1), (2, .int v2)] [] (85, I, J, R) 0 0 := by
  refine ow_iload_n 2 rfl d_Mo_shire_61 ?_
  refine ow_bipush (v := 14) (by decide) d_Mo_shire_62 ?_
  refine ow_icmp_ge (tgt := 80) d_Mo_shire_64 (by decide) (fun c => ?_) (fun c => ?_)
  · replace T := T.1 c
    refine ow_aload_n 0 rfl d_Mo_shire_80 ?_
    refine ow_iload_n 1 rfl d_Mo_shire_81 ?_
    refine ow_pI 172 d_Mo_shire_82 rfl rfl (by decide) rfl rfl rfl ?_
    obtain ⟨I8, eI8⟩ : ∃ uu, uu = ow_u I 70 3 v1 := ⟨_, rfl⟩
    replace T := T I8 eI8
    rw [← eI8]
    refine ow_aload_n 0 rfl d_Mo_shire_85 ?_
    refine ow_iconst (v := 0) (by decide) d_Mo_shire_86 ?_
    refine ow_pI 174 d_Mo_shire_87 rfl rfl (by decide) rfl rfl rfl ?_
    obtain ⟨I9, eI9⟩ : ∃ uu, uu = ow_u I8 70 5 0 := ⟨_, rfl⟩
    replace T := T I9 eI9
    rw [← eI9]
    refine ow_aload_n 0 rfl d_Mo_shire_90 ?_
    refine ow_callV (b := 70) (cq := 12) (As := []) (rest := []) (d2 := d) d_Mo_shire_91 l_Mo_112 v_Mo_next (show 70 < 85 by decide) rfl (by decide) rfl (Nat.le_of_ble_eq_true rfl) (Nat.le_refl _) ⟨Nat.le_refl _, Nat.le_refl _⟩ (ow_mono T ?_)
    rintro r h' ⟨I10, J10, R10, rfl, rfl, hR10, T⟩
    show ow_AW ow_Y0 (ow_Z Q) M_Mo_shire (d + 1) 0 0 94 [(0, .ref 70), (1, .int v1), (2, .int v2)] [] (85, I10, J10, R10) 0 0
    refine ow_aload_n 0 rfl d_Mo_shire_94 ?_
    refine ow_callV (b := 70) (cq := 12) (As := []) (rest := []) (d2 := d) d_Mo_shire_95 l_Mo_160 v_Mo_readLine (show 70 < 85 by decide) rfl (by decide) rfl (Nat.le_of_ble_eq_true rfl) (Nat.le_refl _) ⟨Nat.le_refl _, Nat.le_refl _⟩ (ow_mono T ?_)
    rintro r h' ⟨I11, J11, R11, rfl, rfl, hR11, T⟩
    show ow_AW ow_Y0 (ow_Z Q) M_Mo_shire (d + 1) 0 0 98 [(0, .ref 70), (1, .int v1), (2, .int v2)] [] (85, I11, J11, R11) 0 0
    refine ow_sub [0] rfl ?_
    exact T
  · replace T := T.2 c
    refine ow_aload_n 0 rfl d_Mo_shire_67 ?_
    refine ow_gR (a := 76) 187 d_Mo_shire_68 rfl rfl (by decide) rfl ⟨rfl, hR 70 18 (by decide)⟩ ?_
    refine ow_iload_n 2 rfl d_Mo_shire_71 ?_
    refine ow_iconst (v := 0) (by decide) d_Mo_shire_72 ?_
    obtain ⟨cI, T⟩ := T
    refine ow_hiastore d_Mo_shire_73 (by decide) rfl rfl cI ?_
    obtain ⟨I12, eI12⟩ : ∃ uu, uu = ow_u I 76 (v2.toNatClampNeg) 0 := ⟨_, rfl⟩
    replace T := T I12 eI12
    rw [← eI12]
    refine ow_iinc 2 (v := (v2 + 1)) (ls2 := [(2, .int (v2 + 1)), (0, .ref 70), (1, .int v1)]) d_Mo_shire_74 rfl rfl (by decide) rfl ?_
    refine ow_goto (tgt := 61) d_Mo_shire_77 (by decide) ?_
    refine ow_sub [1, 2, 0] rfl ?_
    exact T
set_option maxRecDepth 4000 in
theorem t_Mo_shire_98 {d : Nat} {I : Nat → Nat → Int32} {J : Nat → Nat → Int64} {R : Nat → Nat → Option Nat} {Q : Option Value → ow_H → Prop}    (hR : ow_RF R) (T : ((¬ (I 70 13) = 0 → ow_AW ow_Y0 (ow_Z Q) M_Mo_shire (d + 1) 0 0 125 [(0, .ref 70)] [] (85, I, J, R) 0 0) ∧ ((I 70 13) = 0 → ((¬ (I 70 6) = 59 → ow_AW ow_Y0 (ow_Z Q) M_Mo_shire (d + 1) 0 0 125 [(0, .ref 70)] [] (85, I, J, R) 0 0) ∧ ((I 70 6) = 59 → (ow_AM M_Mo_next d [.ref 70] (85, I, J, R) (fun r h' => ∃ (I13 : Nat → Nat → Int32) (J13 : Nat → Nat → Int64) (R13 : Nat → Nat → Option Nat), r = none ∧ h' = (85, I13, J13, R13) ∧ ow_RF R13 ∧ (ow_AM M_Mo_readLine d [.ref 70] (85, I13, J13, R13) (fun r h' => ∃ (I14 : Nat → Nat → Int32) (J14 : Nat → Nat → Int64) (R14 : Nat → Nat → Option Nat), r = none ∧ h' = (85, I14, J14, R14) ∧ ow_RF R14 ∧ ow_AW ow_Y0 (ow_Z Q) M_Mo_shire (d + 1) 0 0 98 [(0, .ref 70)] [] (85, I14, J14, R14) 0 0))))))))) : ow_AW ow_Y0 (ow_Z Q) M_Mo_shire (d + 1) 0 0 98 [(0, .ref 70)] [] (85, I, J, R) 0 0 := by
  refine ow_aload_n 0 rfl d_Mo_shire_98 ?_
  refine ow_gI 182 d_Mo_shire_99 rfl rfl (by decide) rfl (Or.inr rfl) ?_
  refine ow_if_ne (tgt := 125) d_Mo_shire_102 (by decide) (fun c => ?_) (fun c => ?_)
  · replace T := T.1 c
    exact T
  · replace T := T.2 c
    refine ow_aload_n 0 rfl d_Mo_shire_105 ?_
    refine ow_gI 175 d_Mo_shire_106 rfl rfl (by decide) rfl (Or.inl rfl) ?_
    refine ow_bipush (v := 59) (by decide) d_Mo_shire_109 ?_
    refine ow_icmp_ne (tgt := 125) d_Mo_shire_111 (by decide) (fun c => ?_) (fun c => ?_)
    · replace T := T.1 c
      exact T
    · replace T := T.2 c
      refine ow_aload_n 0 rfl d_Mo_shire_114 ?_
      refine ow_callV (b := 70) (cq := 12) (As := []) (rest := []) (d2 := d) d_Mo_shire_115 l_Mo_112 v_Mo_next (show 70 < 85 by decide) rfl (by decide) rfl (Nat.le_of_ble_eq_true rfl) (Nat.le_refl _) ⟨Nat.le_refl _, Nat.le_refl _⟩ (ow_mono T ?_)
      rintro r h' ⟨I13, J13, R13, rfl, rfl, hR13, T⟩
      show ow_AW ow_Y0 (ow_Z Q) M_Mo_shire (d + 1) 0 0 118 [(0, .ref 70)] [] (85, I13, J13, R13) 0 0
      refine ow_aload_n 0 rfl d_Mo_shire_118 ?_
      refine ow_callV (b := 70) (cq := 12) (As := []) (rest := []) (d2 := d) d_Mo_shire_119 l_Mo_160 v_Mo_readLine (show 70 < 85 by decide) rfl (by decide) rfl (Nat.le_of_ble_eq_true rfl) (Nat.le_refl _) ⟨Nat.le_refl _, Nat.le_refl _⟩ (ow_mono T ?_)
      rintro r h' ⟨I14, J14, R14, rfl, rfl, hR14, T⟩
      show ow_AW ow_Y0 (ow_Z Q) M_Mo_shire (d + 1) 0 0 122 [(0, .ref 70)] [] (85, I14, J14, R14) 0 0
      refine ow_goto (tgt := 98) d_Mo_shire_122 (by decide) ?_
      exact T
set_option maxRecDepth 4000 in
theorem t_Mo_shire_125 {d : Nat} {I : Nat → Nat → Int32} {J : Nat → Nat → Int64} {R : Nat → Nat → Option Nat} {Q : Option Value → ow_H → Prop}    (hR : ow_RF R) (T : ((¬ (I 70 13) = 0 → ow_AW ow_Y0 (ow_Z Q) M_Mo_shire (d + 1) 0 0 148 [(0, .ref 70)] [] (85, I, J, R) 0 0) ∧ ((I 70 13) = 0 → (((I 70 6) = 0 → ow_AW ow_Y0 (ow_Z Q) M_Mo_shire (d + 1) 0 0 148 [(0, .ref 70)] [] (85, I, J, R) 0 0) ∧ (¬ (I 70 6) = 0 → (ow_AM M_Mo_wrong d [.ref 70, .int 1, .int (I 70 4)] (85, I, J, R) (fun r h' => ∃ (I15 : Nat → Nat → Int32) (J15 : Nat → Nat → Int64) (R15 : Nat → Nat → Option Nat), r = none ∧ h' = (85, I15, J15, R15) ∧ ow_RF R15 ∧ ow_AW ow_Y0 (ow_Z Q) M_Mo_shire (d + 1) 0 0 148 [(0, .ref 70)] [] (85, I15, J15, R15) 0 0))))))) : ow_AW ow_Y0 (ow_Z Q) M_Mo_shire (d + 1) 0 0 125 [(0, .ref 70)] [] (85, I, J, R) 0 0 := by
  refine ow_aload_n 0 rfl d_Mo_shire_125 ?_
  refine ow_gI 182 d_Mo_shire_126 rfl rfl (by decide) rfl (Or.inr rfl) ?_
  refine ow_if_ne (tgt := 148) d_Mo_shire_129 (by decide) (fun c => ?_) (fun c => ?_)
  · replace T := T.1 c
    exact T
  · replace T := T.2 c
    refine ow_aload_n 0 rfl d_Mo_shire_132 ?_
    refine ow_gI 175 d_Mo_shire_133 rfl rfl (by decide) rfl (Or.inl rfl) ?_
    refine ow_if_eq (tgt := 148) d_Mo_shire_136 (by decide) (fun c => ?_) (fun c => ?_)
    · replace T := T.1 c
      exact T
    · replace T := T.2 c
      refine ow_aload_n 0 rfl d_Mo_shire_139 ?_
      refine ow_iconst (v := 1) (by decide) d_Mo_shire_140 ?_
      refine ow_aload_n 0 rfl d_Mo_shire_141 ?_
      refine ow_gI 173 d_Mo_shire_142 rfl rfl (by decide) rfl (Or.inl rfl) ?_
      refine ow_callV (b := 70) (cq := 12) (As := [.int 1, .int (I 70 4)]) (rest := []) (d2 := d) d_Mo_shire_145 l_Mo_118 v_Mo_wrong (show 70 < 85 by decide) rfl (by decide) rfl (Nat.le_of_ble_eq_true rfl) (Nat.le_refl _) ⟨Nat.le_refl _, Nat.le_refl _⟩ (ow_mono T ?_)
      rintro r h' ⟨I15, J15, R15, rfl, rfl, hR15, T⟩
      show ow_AW ow_Y0 (ow_Z Q) M_Mo_shire (d + 1) 0 0 148 [(0, .ref 70)] [] (85, I15, J15, R15) 0 0
      exact T
set_option maxRecDepth 4000 in
theorem t_Mo_shire_148 {d : Nat} {I : Nat → Nat → Int32} {J : Nat → Nat → Int64} {R : Nat → Nat → Option Nat} {Q : Option Value → ow_H → Prop}    (hR : ow_RF R) (T : ((¬ (I 70 13) = 0 → ow_AW ow_Y0 (ow_Z Q) M_Mo_shire (d + 1) 0 0 184 [(0, .ref 70)] [] (85, I, J, R) 0 0) ∧ ((I 70 13) = 0 → (((I 74 6) = 0 → ow_AW ow_Y0 (ow_Z Q) M_Mo_shire (d + 1) 0 0 174 [(0, .ref 70)] [] (85, I, J, R) 0 0) ∧ (¬ (I 74 6) = 0 → ((¬ (I 74 2) = 0 → ow_AW ow_Y0 (ow_Z Q) M_Mo_shire (d + 1) 0 0 184 [(0, .ref 70)] [] (85, I, J, R) 0 0) ∧ ((I 74 2) = 0 → ow_AW ow_Y0 (ow_Z Q) M_Mo_shire (d + 1) 0 0 174 [(0, .ref 70)] [] (85, I, J, R) 0 0))))))) : ow_AW ow_Y0 (ow_Z Q) M_Mo_shire (d + 1) 0 0 148 [(0, .ref 70)] [] (85, I, J, R) 0 0 := by
  refine ow_aload_n 0 rfl d_Mo_shire_148 ?_
  refine ow_gI 182 d_Mo_shire_149 rfl rfl (by decide) rfl (Or.inr rfl) ?_
  refine ow_if_ne (tgt := 184) d_Mo_shire_152 (by decide) (fun c => ?_) (fun c => ?_)
  · replace T := T.1 c
    exact T
  · replace T := T.2 c
    refine ow_aload_n 0 rfl d_Mo_shire_155 ?_
    refine ow_gR (a := 74) 185 d_Mo_shire_156 rfl rfl (by decide) rfl ⟨rfl, hR 70 16 (by decide)⟩ ?_
    refine ow_bipush (v := 6) (by decide) d_Mo_shire_159 ?_
    refine ow_hiaload d_Mo_shire_161 (by decide) rfl rfl (show vp_in (6 : Int32) 146 by unfold vp_in; decide) ?_
    show ow_AW ow_Y0 (ow_Z Q) M_Mo_shire (d + 1) 0 0 162 [(0, .ref 70)] [.int (I 74 6)] (85, I, J, R) 0 0
    refine ow_if_eq (tgt := 174) d_Mo_shire_162 (by decide) (fun c => ?_) (fun c => ?_)
    · replace T := T.1 c
      exact T
    · replace T := T.2 c
      refine ow_aload_n 0 rfl d_Mo_shire_165 ?_
      refine ow_gR (a := 74) 185 d_Mo_shire_166 rfl rfl (by decide) rfl ⟨rfl, hR 70 16 (by decide)⟩ ?_
      refine ow_iconst (v := 2) (by decide) d_Mo_shire_169 ?_
      refine ow_hiaload d_Mo_shire_170 (by decide) rfl rfl (show vp_in (2 : Int32) 146 by unfold vp_in; decide) ?_
      show ow_AW ow_Y0 (ow_Z Q) M_Mo_shire (d + 1) 0 0 171 [(0, .ref 70)] [.int (I 74 2)] (85, I, J, R) 0 0
      refine ow_if_ne (tgt := 184) d_Mo_shire_171 (by decide) (fun c => ?_) (fun c => ?_)
      · replace T := T.1 c
        exact T
      · replace T := T.2 c
        exact T
set_option maxRecDepth 4000 in
theorem t_Mo_shire_174 {d : Nat} {I : Nat → Nat → Int32} {J : Nat → Nat → Int64} {R : Nat → Nat → Option Nat} {Q : Option Value → ow_H → Prop}    (hR : ow_RF R) (T : (ow_AM M_Mo_wrong d [.ref 70, .int 6, .int (I 70 4)] (85, I, J, R) (fun r h' => ∃ (I16 : Nat → Nat → Int32) (J16 : Nat → Nat → Int64) (R16 : Nat → Nat → Option Nat), r = none ∧ h' = (85, I16, J16, R16) ∧ ow_RF R16 ∧ ow_AW ow_Y0 (ow_Z Q) M_Mo_shire (d + 1) 0 0 184 [(0, .ref 70)] [] (85, I16, J16, R16) 0 0))) : ow_AW ow_Y0 (ow_Z Q) M_Mo_shire (d + 1) 0 0 174 [(0, .ref 70)] [] (85, I, J, R) 0 0 := by
  refine ow_aload_n 0 rfl d_Mo_shire_174 ?_
  refine ow_bipush (v := 6) (by decide) d_Mo_shire_175 ?_
  refine ow_aload_n 0 rfl d_Mo_shire_177 ?_
  refine ow_gI 173 d_Mo_shire_178 rfl rfl (by decide) rfl (Or.inl rfl) ?_
  refine ow_callV (b := 70) (cq := 12) (As := [.int 6, .int (I 70 4)]) (rest := []) (d2 := d) d_Mo_shire_181 l_Mo_118 v_Mo_wrong (show 70 < 85 by decide) rfl (by decide) rfl (Nat.le_of_ble_eq_true rfl) (Nat.le_refl _) ⟨Nat.le_refl _, Nat.le_refl _⟩ (ow_mono T ?_)
  rintro r h' ⟨I16, J16, R16, rfl, rfl, hR16, T⟩
  show ow_AW ow_Y0 (ow_Z Q) M_Mo_shire (d + 1) 0 0 184 [(0, .ref 70)] [] (85, I16, J16, R16) 0 0
  exact T
set_option maxRecDepth 4000 in
theorem t_Mo_shire_184 {d : Nat} {I : Nat → Nat → Int32} {J : Nat → Nat → Int64} {R : Nat → Nat → Option Nat} {Q : Option Value → ow_H → Prop}    (hR : ow_RF R) (T : (((I 70 13) = 0 → (ow_AM M_Mo_copy d [.ref 74, .int 0, .ref 73, .int 0, .int 146] (85, I, J, R) (fun r h' => ∃ (I17 : Nat → Nat → Int32) (J17 : Nat → Nat → Int64) (R17 : Nat → Nat → Option Nat), r = none ∧ h' = (85, I17, J17, R17) ∧ ow_RF R17 ∧ (ow_AM M_Mo_copy d [.ref 76, .int 0, .ref 75, .int 0, .int 14] (85, I17, J17, R17) (fun r h' => ∃ (I18 : Nat → Nat → Int32) (J18 : Nat → Nat → Int64) (R18 : Nat → Nat → Option Nat), r = none ∧ h' = (85, I18, J18, R18) ∧ ow_RF R18 ∧ (ow_AM M_Mo_copy d [.ref 76, .int 0, .ref 77, .int 0, .int 14] (85, I18, J18, R18) (fun r h' => ∃ (I19 : Nat → Nat → Int32) (J19 : Nat → Nat → Int64) (R19 : Nat → Nat → Option Nat), r = none ∧ h' = (85, I19, J19, R19) ∧ ow_RF R19 ∧ (∀ (I20 : Nat → Nat → Int32), I20 = ow_u I19 70 14 1 → (∀ (I21 : Nat → Nat → Int32), I21 = ow_u I20 70 22 0 → (∀ (I22 : Nat → Nat → Int32), I22 = ow_u I21 70 23 0 → Q (some (.int (I22 73 2))) (85, I22, J19, R19))))))))))) ∧ (¬ (I 70 13) = 0 → (ow_AM M_Mo_no d [.ref 70, .int 4] (85, I, J, R) (fun r h' => ∃ (r23 : Int32) (I23 : Nat → Nat → Int32) (J23 : Nat → Nat → Int64) (R23 : Nat → Nat → Option Nat), r = some (.int r23) ∧ h' = (85, I23, J23, R23) ∧ ow_RF R23 ∧ Q (some (.int r23)) (85, I23, J23, R23)))))) : ow_AW ow_Y0 (ow_Z Q) M_Mo_shire (d + 1) 0 0 184 [(0, .ref 70)] [] (85, I, J, R) 0 0 := by
  refine ow_aload_n 0 rfl d_Mo_shire_184 ?_
  refine ow_gI 182 d_Mo_shire_185 rfl rfl (by decide) rfl (Or.inr rfl) ?_
  refine ow_if_eq (tgt := 197) d_Mo_shire_188 (by decide) (fun c => ?_) (fun c => ?_)
  · replace T := T.1 c
    refine ow_aload_n 0 rfl d_Mo_shire_197 ?_
    refine ow_gR (a := 74) 185 d_Mo_shire_198 rfl rfl (by decide) rfl ⟨rfl, hR 70 16 (by decide)⟩ ?_
    refine ow_iconst (v := 0) (by decide) d_Mo_shire_201 ?_
    refine ow_aload_n 0 rfl d_Mo_shire_202 ?_
    refine ow_gR (a := 73) 184 d_Mo_shire_203 rfl rfl (by decide) rfl ⟨rfl, hR 70 15 (by decide)⟩ ?_
    refine ow_iconst (v := 0) (by decide) d_Mo_shire_206 ?_
    refine ow_sipush (v := 146) (by decide) d_Mo_shire_207 ?_
    refine ow_callS (As := [.ref 74, .int 0, .ref 73, .int 0, .int 146]) (rest := []) (d2 := d) d_Mo_shire_210 l_Mo_163 v_Mo_copy (Nat.le_of_ble_eq_true rfl) (Nat.le_refl _) ⟨Nat.le_refl _, Nat.le_refl _⟩ (ow_mono T ?_)
    rintro r h' ⟨I17, J17, R17, rfl, rfl, hR17, T⟩
    show ow_AW ow_Y0 (ow_Z Q) M_Mo_shire (d + 1) 0 0 213 [(0, .ref 70)] [] (85, I17, J17, R17) 0 0
    refine ow_aload_n 0 rfl d_Mo_shire_213 ?_
    refine ow_gR (a := 76) 187 d_Mo_shire_214 rfl rfl (by decide) rfl ⟨rfl, hR17 70 18 (by decide)⟩ ?_
    refine ow_iconst (v := 0) (by decide) d_Mo_shire_217 ?_
    refine ow_aload_n 0 rfl d_Mo_shire_218 ?_
    refine ow_gR (a := 75) 186 d_Mo_shire_219 rfl rfl (by decide) rfl ⟨rfl, hR17 70 17 (by decide)⟩ ?_
    refine ow_iconst (v := 0) (by decide) d_Mo_shire_222 ?_
    refine ow_bipush (v := 14) (by decide) d_Mo_shire_223 ?_
    refine ow_callS (As := [.ref 76, .int 0, .ref 75, .int 0, .int 14]) (rest := []) (d2 := d) d_Mo_shire_225 l_Mo_163 v_Mo_copy (Nat.le_of_ble_eq_true rfl) (Nat.le_refl _) ⟨Nat.le_refl _, Nat.le_refl _⟩ (ow_mono T ?_)
    rintro r h' ⟨I18, J18, R18, rfl, rfl, hR18, T⟩
    show ow_AW ow_Y0 (ow_Z Q) M_Mo_shire (d + 1) 0 0 228 [(0, .ref 70)] [] (85, I18, J18, R18) 0 0
    refine ow_aload_n 0 rfl d_Mo_shire_228 ?_
    refine ow_gR (a := 76) 187 d_Mo_shire_229 rfl rfl (by decide) rfl ⟨rfl, hR18 70 18 (by decide)⟩ ?_
    refine ow_iconst (v := 0) (by decide) d_Mo_shire_232 ?_
    refine ow_aload_n 0 rfl d_Mo_shire_233 ?_
    refine ow_gR (a := 77) 188 d_Mo_shire_234 rfl rfl (by decide) rfl ⟨rfl, hR18 70 19 (by decide)⟩ ?_
    refine ow_iconst (v := 0) (by decide) d_Mo_shire_237 ?_
    refine ow_bipush (v := 14) (by decide) d_Mo_shire_238 ?_
    refine ow_callS (As := [.ref 76, .int 0, .ref 77, .int 0, .int 14]) (rest := []) (d2 := d) d_Mo_shire_240 l_Mo_163 v_Mo_copy (Nat.le_of_ble_eq_true rfl) (Nat.le_refl _) ⟨Nat.le_refl _, Nat.le_refl _⟩ (ow_mono T ?_)
    rintro r h' ⟨I19, J19, R19, rfl, rfl, hR19, T⟩
    show ow_AW ow_Y0 (ow_Z Q) M_Mo_shire (d + 1) 0 0 243 [(0, .ref 70)] [] (85, I19, J19, R19) 0 0
    refine ow_aload_n 0 rfl d_Mo_shire_243 ?_
    refine ow_iconst (v := 1) (by decide) d_Mo_shire_244 ?_
    refine ow_pZ 183 d_Mo_shire_245 rfl rfl (by decide) rfl ⟨rfl, by decide⟩ rfl ?_
    obtain ⟨I20, eI20⟩ : ∃ uu, uu = ow_u I19 70 14 1 := ⟨_, rfl⟩
    replace T := T I20 eI20
    rw [← eI20]
    refine ow_aload_n 0 rfl d_Mo_shire_248 ?_
    refine ow_iconst (v := 0) (by decide) d_Mo_shire_249 ?_
    refine ow_pI 191 d_Mo_shire_250 rfl rfl (by decide) rfl rfl rfl ?_
    obtain ⟨I21, eI21⟩ : ∃ uu, uu = ow_u I20 70 22 0 := ⟨_, rfl⟩
    replace T := T I21 eI21
    rw [← eI21]
    refine ow_aload_n 0 rfl d_Mo_shire_253 ?_
    refine ow_iconst (v := 0) (by decide) d_Mo_shire_254 ?_
    refine ow_pI 192 d_Mo_shire_255 rfl rfl (by decide) rfl rfl rfl ?_
    obtain ⟨I22, eI22⟩ : ∃ uu, uu = ow_u I21 70 23 0 := ⟨_, rfl⟩
    replace T := T I22 eI22
    rw [← eI22]
    refine ow_aload_n 0 rfl d_Mo_shire_258 ?_
    refine ow_gR (a := 73) 184 d_Mo_shire_259 rfl rfl (by decide) rfl ⟨rfl, hR19 70 15 (by decide)⟩ ?_
    refine ow_iconst (v := 2) (by decide) d_Mo_shire_262 ?_
    refine ow_hiaload d_Mo_shire_263 (by decide) rfl rfl (show vp_in (2 : Int32) 146 by unfold vp_in; decide) ?_
    show ow_AW ow_Y0 (ow_Z Q) M_Mo_shire (d + 1) 0 0 264 [(0, .ref 70)] [.int (I22 73 2)] (85, I22, J19, R19) 0 0
    exact ow_iret d_Mo_shire_264 rfl T
  · replace T := T.2 c
    refine ow_aload_n 0 rfl d_Mo_shire_191 ?_
    refine ow_iconst (v := 4) (by decide) d_Mo_shire_192 ?_
    refine ow_callV (b := 70) (cq := 12) (As := [.int 4]) (rest := []) (d2 := d) d_Mo_shire_193 l_Mo_157 v_Mo_no (show 70 < 85 by decide) rfl (by decide) rfl (Nat.le_of_ble_eq_true rfl) (Nat.le_refl _) ⟨Nat.le_refl _, Nat.le_refl _⟩ (ow_mono T ?_)
    rintro r h' ⟨r23, I23, J23, R23, rfl, rfl, hR23, T⟩
    show ow_AW ow_Y0 (ow_Z Q) M_Mo_shire (d + 1) 0 0 196 [(0, .ref 70)] [.int r23] (85, I23, J23, R23) 0 0
    exact ow_iret d_Mo_shire_196 rfl T
set_option maxRecDepth 4000 in
theorem t_Mo_shire {d : Nat} {I : Nat → Nat → Int32} {J : Nat → Nat → Int64} {R : Nat → Nat → Option Nat} {Q : Option Value → ow_H → Prop} {p1 : Int32}  (hR : ow_RF R) (T : (ow_AM M_Mo_good d [.ref 70] (85, I, J, R) (fun r h' => ∃ (I24 : Nat → Nat → Int32) (J24 : Nat → Nat → Int64) (R24 : Nat → Nat → Option Nat), r = none ∧ h' = (85, I24, J24, R24) ∧ ow_RF R24 ∧ (ow_AM M_Mo_in d [.int p1, .int 0, .int (I24 70 2)] (85, I24, J24, R24) (fun r h' => ∃ (r25 : Int32) (I25 : Nat → Nat → Int32) (J25 : Nat → Nat → Int64) (R25 : Nat → Nat → Option Nat), r = some (.int r25) ∧ h' = (85, I25, J25, R25) ∧ ow_RF R25 ∧ ((¬ r25 = 0 → (∀ (I26 : Nat → Nat → Int32), I26 = ow_u I25 70 2 0 → (∀ (I27 : Nat → Nat → Int32), I27 = ow_u I26 70 9 0 → (∀ (I28 : Nat → Nat → Int32), I28 = ow_u I27 70 13 0 → ow_AW ow_Y0 (ow_Z Q) M_Mo_shire (d + 1) 0 0 39 [(0, .ref 70), (1, .int p1), (2, .int 0)] [] (85, I28, J25, R25) 0 0)))) ∧ (r25 = 0 → (ow_AM M_Mo_no d [.ref 70, .int 2] (85, I25, J25, R25) (fun r h' => ∃ (r29 : Int32) (I29 : Nat → Nat → Int32) (J29 : Nat → Nat → Int64) (R29 : Nat → Nat → Option Nat), r = some (.int r29) ∧ h' = (85, I29, J29, R29) ∧ ow_RF R29 ∧ Q (some (.int r29)) (85, I29, J29, R29)))))))))) : ow_AM M_Mo_shire (d + 1) [.ref 70, .int p1] (85, I, J, R) Q := by
  refine ow_enter (by decide) (Nat.le_of_ble_eq_true rfl) ?_
  show ow_AW ow_Y0 (ow_Z Q) M_Mo_shire (d + 1) 0 0 0 [(0, .ref 70), (1, .int p1)] [] (85, I, J, R) 0 0
  refine ow_aload_n 0 rfl d_Mo_shire_0 ?_
  refine ow_callV (b := 70) (cq := 12) (As := []) (rest := []) (d2 := d) d_Mo_shire_1 l_Mo_154 v_Mo_good (show 70 < 85 by decide) rfl (by decide) rfl (Nat.le_of_ble_eq_true rfl) (Nat.le_refl _) ⟨Nat.le_refl _, Nat.le_refl _⟩ (ow_mono T ?_)
  rintro r h' ⟨I24, J24, R24, rfl, rfl, hR24, T⟩
  show ow_AW ow_Y0 (ow_Z Q) M_Mo_shire (d + 1) 0 0 4 [(0, .ref 70), (1, .int p1)] [] (85, I24, J24, R24) 0 0
  refine ow_iload_n 1 rfl d_Mo_shire_4 ?_
  refine ow_iconst (v := 0) (by decide) d_Mo_shire_5 ?_
  refine ow_aload_n 0 rfl d_Mo_shire_6 ?_
  refine ow_gI 171 d_Mo_shire_7 rfl rfl (by decide) rfl (Or.inl rfl) ?_
  refine ow_callS (As := [.int p1, .int 0, .int (I24 70 2)]) (rest := []) (d2 := d) d_Mo_shire_10 l_Mo_142 v_Mo_in (Nat.le_of_ble_eq_true rfl) (Nat.le_refl _) ⟨Nat.le_refl _, Nat.le_refl _⟩ (ow_mono T ?_)
  rintro r h' ⟨r25, I25, J25, R25, rfl, rfl, hR25, T⟩
  show ow_AW ow_Y0 (ow_Z Q) M_Mo_shire (d + 1) 0 0 13 [(0, .ref 70), (1, .int p1)] [.int r25] (85, I25, J25, R25) 0 0
  refine ow_if_ne (tgt := 22) d_Mo_shire_13 (by decide) (fun c => ?_) (fun c => ?_)
  · replace T := T.1 c
    refine ow_aload_n 0 rfl d_Mo_shire_22 ?_
    refine ow_iconst (v := 0) (by decide) d_Mo_shire_23 ?_
    refine ow_pI 171 d_Mo_shire_24 rfl rfl (by decide) rfl rfl rfl ?_
    obtain ⟨I26, eI26⟩ : ∃ uu, uu = ow_u I25 70 2 0 := ⟨_, rfl⟩
    replace T := T I26 eI26
    rw [← eI26]
    refine ow_aload_n 0 rfl d_Mo_shire_27 ?_
    refine ow_iconst (v := 0) (by decide) d_Mo_shire_28 ?_
    refine ow_pI 178 d_Mo_shire_29 rfl rfl (by decide) rfl rfl rfl ?_
    obtain ⟨I27, eI27⟩ : ∃ uu, uu = ow_u I26 70 9 0 := ⟨_, rfl⟩
    replace T := T I27 eI27
    rw [← eI27]
    refine ow_aload_n 0 rfl d_Mo_shire_32 ?_
    refine ow_iconst (v := 0) (by decide) d_Mo_shire_33 ?_
    refine ow_pZ 182 d_Mo_shire_34 rfl rfl (by decide) rfl ⟨rfl, by decide⟩ rfl ?_
    obtain ⟨I28, eI28⟩ : ∃ uu, uu = ow_u I27 70 13 0 := ⟨_, rfl⟩
    replace T := T I28 eI28
    rw [← eI28]
    refine ow_iconst (v := 0) (by decide) d_Mo_shire_37 ?_
    refine ow_istore_n (ls2 := [(2, .int 0), (0, .ref 70), (1, .int p1)]) d_Mo_shire_38 (by decide) rfl ?_
    refine ow_sub [1, 2, 0] rfl ?_
    exact T
  · replace T := T.2 c
    refine ow_aload_n 0 rfl d_Mo_shire_16 ?_
    refine ow_iconst (v := 2) (by decide) d_Mo_shire_17 ?_
    refine ow_callV (b := 70) (cq := 12) (As := [.int 2]) (rest := []) (d2 := d) d_Mo_shire_18 l_Mo_157 v_Mo_no (show 70 < 85 by decide) rfl (by decide) rfl (Nat.le_of_ble_eq_true rfl) (Nat.le_refl _) ⟨Nat.le_refl _, Nat.le_refl _⟩ (ow_mono T ?_)
    rintro r h' ⟨r29, I29, J29, R29, rfl, rfl, hR29, T⟩
    show ow_AW ow_Y0 (ow_Z Q) M_Mo_shire (d + 1) 0 0 21 [(0, .ref 70), (1, .int p1)] [.int r29] (85, I29, J29, R29) 0 0
    exact ow_iret d_Mo_shire_21 rfl T
set_option maxRecDepth 4000 in
theorem t_Mo_begins {d : Nat} {I : Nat → Nat → Int32} {J : Nat → Nat → Int64} {R : Nat → Nat → Option Nat} {Q : Option Value → ow_H → Prop} {i : Nat} {p1 : Int32} (hi : i < ow_ns) (hR : ow_RF R) (T : (ow_AM M_Mo_isWord d [.ref 70, .ref (1000 + i)] (85, I, J, R) (fun r h' => ∃ (r9 : Int32) (I9 : Nat → Nat → Int32) (J9 : Nat → Nat → Int64) (R9 : Nat → Nat → Option Nat), r = some (.int r9) ∧ h' = (85, I9, J9, R9) ∧ ow_RF R9 ∧ ((¬ r9 = 0 → ((¬ p1 = 0 → ((¬ (I9 74 6) = 0 → (ow_AM M_Mo_pass d [.ref 70] (85, I9, J9, R9) (fun r h' => ∃ (I10 : Nat → Nat → Int32) (J10 : Nat → Nat → Int64) (R10 : Nat → Nat → Option Nat), r = none ∧ h' = (85, I10, J10, R10) ∧ ow_RF R10 ∧ Q (some (.int 1)) (85, I10, J10, R10)))) ∧ ((I9 74 6) = 0 → (ow_AM M_Mo_wrong d [.ref 70, .int 6, .int (I9 70 4)] (85, I9, J9, R9) (fun r h' => ∃ (I11 : Nat → Nat → Int32) (J11 : Nat → Nat → Int64) (R11 : Nat → Nat → Option Nat), r = none ∧ h' = (85, I11, J11, R11) ∧ ow_RF R11 ∧ (ow_AM M_Mo_pass d [.ref 70] (85, I11, J11, R11) (fun r h' => ∃ (I12 : Nat → Nat → Int32) (J12 : Nat → Nat → Int64) (R12 : Nat → Nat → Option Nat), r = none ∧ h' = (85, I12, J12, R12) ∧ ow_RF R12 ∧ Q (some (.int 1)) (85, I12, J12, R12)))))))) ∧ (p1 = 0 → (ow_AM M_Mo_wrong d [.ref 70, .int 5, .int (I9 70 4)] (85, I9, J9, R9) (fun r h' => ∃ (I13 : Nat → Nat → Int32) (J13 : Nat → Nat → Int64) (R13 : Nat → Nat → Option Nat), r = none ∧ h' = (85, I13, J13, R13) ∧ ow_RF R13 ∧ ((¬ (I13 74 6) = 0 → (ow_AM M_Mo_pass d [.ref 70] (85, I13, J13, R13) (fun r h' => ∃ (I14 : Nat → Nat → Int32) (J14 : Nat → Nat → Int64) (R14 : Nat → Nat → Option Nat), r = none ∧ h' = (85, I14, J14, R14) ∧ ow_RF R14 ∧ Q (some (.int 1)) (85, I14, J14, R14)))) ∧ ((I13 74 6) = 0 → (ow_AM M_Mo_wrong d [.ref 70, .int 6, .int (I13 70 4)] (85, I13, J13, R13) (fun r h' => ∃ (I15 : Nat → Nat → Int32) (J15 : Nat → Nat → Int64) (R15 : Nat → Nat → Option Nat), r = none ∧ h' = (85, I15, J15, R15) ∧ ow_RF R15 ∧ (ow_AM M_Mo_pass d [.ref 70] (85, I15, J15, R15) (fun r h' => ∃ (I16 : Nat → Nat → Int32) (J16 : Nat → Nat → Int64) (R16 : Nat → Nat → Option Nat), r = none ∧ h' = (85, I16, J16, R16) ∧ ow_RF R16 ∧ Q (some (.int 1)) (85, I16, J16, R16)))))))))))) ∧ (r9 = 0 → Q (some (.int 0)) (85, I9, J9, R9)))))) : ow_AM M_Mo_begins (d + 1) [.ref 70, .ref (1000 + i), .int p1] (85, I, J, R) Q := by
  refine ow_enter (by decide) (Nat.le_of_ble_eq_true rfl) ?_
  show ow_AW ow_Y0 (ow_Z Q) M_Mo_begins (d + 1) 0 0 0 [(0, .ref 70), (1, .ref (1000 + i)), (2, .int p1)] [] (85, I, J, R) 0 0
  refine ow_aload_n 0 rfl d_Mo_begins_0 ?_
  refine ow_aload_n 1 rfl d_Mo_begins_1 ?_
  refine ow_callV (b := 70) (cq := 12) (As := [.ref (1000 + i)]) (rest := []) (d2 := d) d_Mo_begins_2 l_Mo_108 v_Mo_isWord (show 70 < 85 by decide) rfl (by decide) rfl (Nat.le_of_ble_eq_true rfl) (Nat.le_refl _) ⟨Nat.le_refl _, Nat.le_refl _⟩ (ow_mono T ?_)
  rintro r h' ⟨r9, I9, J9, R9, rfl, rfl, hR9, T⟩
  show ow_AW ow_Y0 (ow_Z Q) M_Mo_begins (d + 1) 0 0 5 [(0, .ref 70), (1, .ref (1000 + i)), (2, .int p1)] [.int r9] (85, I9, J9, R9) 0 0
  refine ow_if_ne (tgt := 10) d_Mo_begins_5 (by decide) (fun c => ?_) (fun c => ?_)
  · replace T := T.1 c
    refine ow_iload_n 2 rfl d_Mo_begins_10 ?_
    refine ow_if_ne (tgt := 23) d_Mo_begins_11 (by decide) (fun c => ?_) (fun c => ?_)
    · replace T := T.1 c
      refine ow_aload_n 0 rfl d_Mo_begins_23 ?_
      refine ow_gR (a := 74) 185 d_Mo_begins_24 rfl rfl (by decide) rfl ⟨rfl, hR9 70 16 (by decide)⟩ ?_
      refine ow_bipush (v := 6) (by decide) d_Mo_begins_27 ?_
      refine ow_hiaload d_Mo_begins_29 (by decide) rfl rfl (show vp_in (6 : Int32) 146 by unfold vp_in; decide) ?_
      show ow_AW ow_Y0 (ow_Z Q) M_Mo_begins (d + 1) 0 0 30 [(0, .ref 70), (1, .ref (1000 + i)), (2, .int p1)] [.int (I9 74 6)] (85, I9, J9, R9) 0 0
      refine ow_if_ne (tgt := 43) d_Mo_begins_30 (by decide) (fun c => ?_) (fun c => ?_)
      · replace T := T.1 c
        refine ow_aload_n 0 rfl d_Mo_begins_43 ?_
        refine ow_callV (b := 70) (cq := 12) (As := []) (rest := []) (d2 := d) d_Mo_begins_44 l_Mo_176 v_Mo_pass (show 70 < 85 by decide) rfl (by decide) rfl (Nat.le_of_ble_eq_true rfl) (Nat.le_refl _) ⟨Nat.le_refl _, Nat.le_refl _⟩ (ow_mono T ?_)
        rintro r h' ⟨I10, J10, R10, rfl, rfl, hR10, T⟩
        show ow_AW ow_Y0 (ow_Z Q) M_Mo_begins (d + 1) 0 0 47 [(0, .ref 70), (1, .ref (1000 + i)), (2, .int p1)] [] (85, I10, J10, R10) 0 0
        refine ow_iconst (v := 1) (by decide) d_Mo_begins_47 ?_
        exact ow_zret d_Mo_begins_48 rfl (by decide) T
      · replace T := T.2 c
        refine ow_aload_n 0 rfl d_Mo_begins_33 ?_
        refine ow_bipush (v := 6) (by decide) d_Mo_begins_34 ?_
        refine ow_aload_n 0 rfl d_Mo_begins_36 ?_
        refine ow_gI 173 d_Mo_begins_37 rfl rfl (by decide) rfl (Or.inl rfl) ?_
        refine ow_callV (b := 70) (cq := 12) (As := [.int 6, .int (I9 70 4)]) (rest := []) (d2 := d) d_Mo_begins_40 l_Mo_118 v_Mo_wrong (show 70 < 85 by decide) rfl (by decide) rfl (Nat.le_of_ble_eq_true rfl) (Nat.le_refl _) ⟨Nat.le_refl _, Nat.le_refl _⟩ (ow_mono T ?_)
        rintro r h' ⟨I11, J11, R11, rfl, rfl, hR11, T⟩
        show ow_AW ow_Y0 (ow_Z Q) M_Mo_begins (d + 1) 0 0 43 [(0, .ref 70), (1, .ref (1000 + i)), (2, .int p1)] [] (85, I11, J11, R11) 0 0
        refine ow_aload_n 0 rfl d_Mo_begins_43 ?_
        refine ow_callV (b := 70) (cq := 12) (As := []) (rest := []) (d2 := d) d_Mo_begins_44 l_Mo_176 v_Mo_pass (show 70 < 85 by decide) rfl (by decide) rfl (Nat.le_of_ble_eq_true rfl) (Nat.le_refl _) ⟨Nat.le_refl _, Nat.le_refl _⟩ (ow_mono T ?_)
        rintro r h' ⟨I12, J12, R12, rfl, rfl, hR12, T⟩
        show ow_AW ow_Y0 (ow_Z Q) M_Mo_begins (d + 1) 0 0 47 [(0, .ref 70), (1, .ref (1000 + i)), (2, .int p1)] [] (85, I12, J12, R12) 0 0
        refine ow_iconst (v := 1) (by decide) d_Mo_begins_47 ?_
        exact ow_zret d_Mo_begins_48 rfl (by decide) T
    · replace T := T.2 c
      refine ow_aload_n 0 rfl d_Mo_begins_14 ?_
      refine ow_iconst (v := 5) (by decide) d_Mo_begins_15 ?_
      refine ow_aload_n 0 rfl d_Mo_begins_16 ?_
      refine ow_gI 173 d_Mo_begins_17 rfl rfl (by decide) rfl (Or.inl rfl) ?_
      refine ow_callV (b := 70) (cq := 12) (As := [.int 5, .int (I9 70 4)]) (rest := []) (d2 := d) d_Mo_begins_20 l_Mo_118 v_Mo_wrong (show 70 < 85 by decide) rfl (by decide) rfl (Nat.le_of_ble_eq_true rfl) (Nat.le_refl _) ⟨Nat.le_refl _, Nat.le_refl _⟩ (ow_mono T ?_)
      rintro r h' ⟨I13, J13, R13, rfl, rfl, hR13, T⟩
      show ow_AW ow_Y0 (ow_Z Q) M_Mo_begins (d + 1) 0 0 23 [(0, .ref 70), (1, .ref (1000 + i)), (2, .int p1)] [] (85, I13, J13, R13) 0 0
      refine ow_aload_n 0 rfl d_Mo_begins_23 ?_
      refine ow_gR (a := 74) 185 d_Mo_begins_24 rfl rfl (by decide) rfl ⟨rfl, hR13 70 16 (by decide)⟩ ?_
      refine ow_bipush (v := 6) (by decide) d_Mo_begins_27 ?_
      refine ow_hiaload d_Mo_begins_29 (by decide) rfl rfl (show vp_in (6 : Int32) 146 by unfold vp_in; decide) ?_
      show ow_AW ow_Y0 (ow_Z Q) M_Mo_begins (d + 1) 0 0 30 [(0, .ref 70), (1, .ref (1000 + i)), (2, .int p1)] [.int (I13 74 6)] (85, I13, J13, R13) 0 0
      refine ow_if_ne (tgt := 43) d_Mo_begins_30 (by decide) (fun c => ?_) (fun c => ?_)
      · replace T := T.1 c
        refine ow_aload_n 0 rfl d_Mo_begins_43 ?_
        refine ow_callV (b := 70) (cq := 12) (As := []) (rest := []) (d2 := d) d_Mo_begins_44 l_Mo_176 v_Mo_pass (show 70 < 85 by decide) rfl (by decide) rfl (Nat.le_of_ble_eq_true rfl) (Nat.le_refl _) ⟨Nat.le_refl _, Nat.le_refl _⟩ (ow_mono T ?_)
        rintro r h' ⟨I14, J14, R14, rfl, rfl, hR14, T⟩
        show ow_AW ow_Y0 (ow_Z Q) M_Mo_begins (d + 1) 0 0 47 [(0, .ref 70), (1, .ref (1000 + i)), (2, .int p1)] [] (85, I14, J14, R14) 0 0
        refine ow_iconst (v := 1) (by decide) d_Mo_begins_47 ?_
        exact ow_zret d_Mo_begins_48 rfl (by decide) T
      · replace T := T.2 c
        refine ow_aload_n 0 rfl d_Mo_begins_33 ?_
        refine ow_bipush (v := 6) (by decide) d_Mo_begins_34 ?_
        refine ow_aload_n 0 rfl d_Mo_begins_36 ?_
        refine ow_gI 173 d_Mo_begins_37 rfl rfl (by decide) rfl (Or.inl rfl) ?_
        refine ow_callV (b := 70) (cq := 12) (As := [.int 6, .int (I13 70 4)]) (rest := []) (d2 := d) d_Mo_begins_40 l_Mo_118 v_Mo_wrong (show 70 < 85 by decide) rfl (by decide) rfl (Nat.le_of_ble_eq_true rfl) (Nat.le_refl _) ⟨Nat.le_refl _, Nat.le_refl _⟩ (ow_mono T ?_)
        rintro r h' ⟨I15, J15, R15, rfl, rfl, hR15, T⟩
        show ow_AW ow_Y0 (ow_Z Q) M_Mo_begins (d + 1) 0 0 43 [(0, .ref 70), (1, .ref (1000 + i)), (2, .int p1)] [] (85, I15, J15, R15) 0 0
        refine ow_aload_n 0 rfl d_Mo_begins_43 ?_
        refine ow_callV (b := 70) (cq := 12) (As := []) (rest := []) (d2 := d) d_Mo_begins_44 l_Mo_176 v_Mo_pass (show 70 < 85 by decide) rfl (by decide) rfl (Nat.le_of_ble_eq_true rfl) (Nat.le_refl _) ⟨Nat.le_refl _, Nat.le_refl _⟩ (ow_mono T ?_)
        rintro r h' ⟨I16, J16, R16, rfl, rfl, hR16, T⟩
        show ow_AW ow_Y0 (ow_Z Q) M_Mo_begins (d + 1) 0 0 47 [(0, .ref 70), (1, .ref (1000 + i)), (2, .int p1)] [] (85, I16, J16, R16) 0 0
        refine ow_iconst (v := 1) (by decide) d_Mo_begins_47 ?_
        exact ow_zret d_Mo_begins_48 rfl (by decide) T
  · replace T := T.2 c
    refine ow_iconst (v := 0) (by decide) d_Mo_begins_8 ?_
    exact ow_zret d_Mo_begins_9 rfl (by decide) T
set_option maxRecDepth 4000 in
theorem t_Mo_readLine {d : Nat} {I : Nat → Nat → Int32} {J : Nat → Nat → Int64} {R : Nat → Nat → Option Nat} {Q : Option Value → ow_H → Prop}   (hR : ow_RF R) (T : (ow_AM M_Mo_isWord d [.ref 70, .ref (1000 + 0)] (85, I, J, R) (fun r h' => ∃ (r87 : Int32) (I87 : Nat → Nat → Int32) (J87 : Nat → Nat → Int64) (R87 : Nat → Nat → Option Nat), r = some (.int r87) ∧ h' = (85, I87, J87, R87) ∧ ow_RF R87 ∧ ((r87 = 0 → ((6 ≤ (I87 74 2) → (ow_AM M_Mo_begins d [.ref 70, .ref (1000 + 1), .int 0] (85, I87, J87, R87) (fun r h' => ∃ (r88 : Int32) (I88 : Nat → Nat → Int32) (J88 : Nat → Nat → Int64) (R88 : Nat → Nat → Option Nat), r = some (.int r88) ∧ h' = (85, I88, J88, R88) ∧ ow_RF R88 ∧ ((r88 = 0 → (ow_AM M_Mo_begins d [.ref 70, .ref (1000 + 2), .int 1] (85, I88, J88, R88) (fun r h' => ∃ (r89 : Int32) (I89 : Nat → Nat → Int32) (J89 : Nat → Nat → Int64) (R89 : Nat → Nat → Option Nat), r = some (.int r89) ∧ h' = (85, I89, J89, R89) ∧ ow_RF R89 ∧ ((r89 = 0 → (ow_AM M_Mo_begins d [.ref 70, .ref (1000 + 3), .int 1] (85, I89, J89, R89) (fun r h' => ∃ (r90 : Int32) (I90 : Nat → Nat → Int32) (J90 : Nat → Nat → Int64) (R90 : Nat → Nat → Option Nat), r = some (.int r90) ∧ h' = (85, I90, J90, R90) ∧ ow_RF R90 ∧ ((r90 = 0 → ((5 ≤ (I90 74 3) → (ow_AM M_Mo_begins d [.ref 70, .ref (1000 + 4), .int 0] (85, I90, J90, R90) (fun r h' => ∃ (r91 : Int32) (I91 : Nat → Nat → Int32) (J91 : Nat → Nat → Int64) (R91 : Nat → Nat → Option Nat), r = some (.int r91) ∧ h' = (85, I91, J91, R91) ∧ ow_RF R91 ∧ ((r91 = 0 → ((3 ≤ (I91 74 4) → (ow_AM M_Mo_begins d [.ref 70, .ref (1000 + 5), .int 0] (85, I91, J91, R91) (fun r h' => ∃ (r92 : Int32) (I92 : Nat → Nat → Int32) (J92 : Nat → Nat → Int64) (R92 : Nat → Nat → Option Nat), r = some (.int r92) ∧ h' = (85, I92, J92, R92) ∧ ow_RF R92 ∧ ((r92 = 0 → ((5 ≤ (I92 74 5) → (ow_AM M_Mo_begins d [.ref 70, .ref (1000 + 6), .int 0] (85, I92, J92, R92) (fun r h' => ∃ (r93 : Int32) (I93 : Nat → Nat → Int32) (J93 : Nat → Nat → Int64) (R93 : Nat → Nat → Option Nat), r = some (.int r93) ∧ h' = (85, I93, J93, R93) ∧ ow_RF R93 ∧ ((r93 = 0 → (ow_AM M_Mo_wrong d [.ref 70, .int 1, .int (I93 70 4)] (85, I93, J93, R93) (fun r h' => ∃ (I94 : Nat → Nat → Int32) (J94 : Nat → Nat → Int64) (R94 : Nat → Nat → Option Nat), r = none ∧ h' = (85, I94, J94, R94) ∧ ow_RF R94 ∧ Q none (85, I94, J94, R94)))) ∧ (¬ r93 = 0 → (ow_AM M_Mo_signedLine d [.ref 70] (85, I93, J93, R93) (fun r h' => ∃ (I95 : Nat → Nat → Int32) (J95 : Nat → Nat → Int64) (R95 : Nat → Nat → Option Nat), r = none ∧ h' = (85, I95, J95, R95) ∧ ow_RF R95 ∧ Q none (85, I95, J95, R95)))))))) ∧ (¬ 5 ≤ (I92 74 5) → (ow_AM M_Mo_begins d [.ref 70, .ref (1000 + 6), .int 1] (85, I92, J92, R92) (fun r h' => ∃ (r96 : Int32) (I96 : Nat → Nat → Int32) (J96 : Nat → Nat → Int64) (R96 : Nat → Nat → Option Nat), r = some (.int r96) ∧ h' = (85, I96, J96, R96) ∧ ow_RF R96 ∧ ((r96 = 0 → (ow_AM M_Mo_wrong d [.ref 70, .int 1, .int (I96 70 4)] (85, I96, J96, R96) (fun r h' => ∃ (I97 : Nat → Nat → Int32) (J97 : Nat → Nat → Int64) (R97 : Nat → Nat → Option Nat), r = none ∧ h' = (85, I97, J97, R97) ∧ ow_RF R97 ∧ Q none (85, I97, J97, R97)))) ∧ (¬ r96 = 0 → (ow_AM M_Mo_signedLine d [.ref 70] (85, I96, J96, R96) (fun r h' => ∃ (I98 : Nat → Nat → Int32) (J98 : Nat → Nat → Int64) (R98 : Nat → Nat → Option Nat), r = none ∧ h' = (85, I98, J98, R98) ∧ ow_RF R98 ∧ Q none (85, I98, J98, R98)))))))))) ∧ (¬ r92 = 0 → (ow_AM M_Mo_veiledLine d [.ref 70] (85, I92, J92, R92) (fun r h' => ∃ (I99 : Nat → Nat → Int32) (J99 : Nat → Nat → Int64) (R99 : Nat → Nat → Option Nat), r = none ∧ h' = (85, I99, J99, R99) ∧ ow_RF R99 ∧ Q none (85, I99, J99, R99)))))))) ∧ (¬ 3 ≤ (I91 74 4) → (ow_AM M_Mo_begins d [.ref 70, .ref (1000 + 5), .int 1] (85, I91, J91, R91) (fun r h' => ∃ (r100 : Int32) (I100 : Nat → Nat → Int32) (J100 : Nat → Nat → Int64) (R100 : Nat → Nat → Option Nat), r = some (.int r100) ∧ h' = (85, I100, J100, R100) ∧ ow_RF R100 ∧ ((r100 = 0 → ((5 ≤ (I100 74 5) → (ow_AM M_Mo_begins d [.ref 70, .ref (1000 + 6), .int 0] (85, I100, J100, R100) (fun r h' => ∃ (r101 : Int32) (I101 : Nat → Nat → Int32) (J101 : Nat → Nat → Int64) (R101 : Nat → Nat → Option Nat), r = some (.int r101) ∧ h' = (85, I101, J101, R101) ∧ ow_RF R101 ∧ ((r101 = 0 → (ow_AM M_Mo_wrong d [.ref 70, .int 1, .int (I101 70 4)] (85, I101, J101, R101) (fun r h' => ∃ (I102 : Nat → Nat → Int32) (J102 : Nat → Nat → Int64) (R102 : Nat → Nat → Option Nat), r = none ∧ h' = (85, I102, J102, R102) ∧ ow_RF R102 ∧ Q none (85, I102, J102, R102)))) ∧ (¬ r101 = 0 → (ow_AM M_Mo_signedLine d [.ref 70] (85, I101, J101, R101) (fun r h' => ∃ (I103 : Nat → Nat → Int32) (J103 : Nat → Nat → Int64) (R103 : Nat → Nat → Option Nat), r = none ∧ h' = (85, I103, J103, R103) ∧ ow_RF R103 ∧ Q none (85, I103, J103, R103)))))))) ∧ (¬ 5 ≤ (I100 74 5) → (ow_AM M_Mo_begins d [.ref 70, .ref (1000 + 6), .int 1] (85, I100, J100, R100) (fun r h' => ∃ (r104 : Int32) (I104 : Nat → Nat → Int32) (J104 : Nat → Nat → Int64) (R104 : Nat → Nat → Option Nat), r = some (.int r104) ∧ h' = (85, I104, J104, R104) ∧ ow_RF R104 ∧ ((r104 = 0 → (ow_AM M_Mo_wrong d [.ref 70, .int 1, .int (I104 70 4)] (85, I104, J104, R104) (fun r h' => ∃ (I105 : Nat → Nat → Int32) (J105 : Nat → Nat → Int64) (R105 : Nat → Nat → Option Nat), r = none ∧ h' = (85, I105, J105, R105) ∧ ow_RF R105 ∧ Q none (85, I105, J105, R105)))) ∧ (¬ r104 = 0 → (ow_AM M_Mo_signedLine d [.ref 70] (85, I104, J104, R104) (fun r h' => ∃ (I106 : Nat → Nat → Int32) (J106 : Nat → Nat → Int64) (R106 : Nat → Nat → Option Nat), r = none ∧ h' = (85, I106, J106, R106) ∧ ow_RF R106 ∧ Q none (85, I106, J106, R106)))))))))) ∧ (¬ r100 = 0 → (ow_AM M_Mo_veiledLine d [.ref 70] (85, I100, J100, R100) (fun r h' => ∃ (I107 : Nat → Nat → Int32) (J107 : Nat → Nat → Int64) (R107 : Nat → Nat → Option Nat), r = none ∧ h' = (85, I107, J107, R107) ∧ ow_RF R107 ∧ Q none (85, I107, J107, R107)))))))))) ∧ (¬ r91 = 0 → (ow_AM M_Mo_estateLine d [.ref 70] (85, I91, J91, R91) (fun r h' => ∃ (I108 : Nat → Nat → Int32) (J108 : Nat → Nat → Int64) (R108 : Nat → Nat → Option Nat), r = none ∧ h' = (85, I108, J108, R108) ∧ ow_RF R108 ∧ Q none (85, I108, J108, R108)))))))) ∧ (¬ 5 ≤ (I90 74 3) → (ow_AM M_Mo_begins d [.ref 70, .ref (1000 + 4), .int 1] (85, I90, J90, R90) (fun r h' => ∃ (r109 : Int32) (I109 : Nat → Nat → Int32) (J109 : Nat → Nat → Int64) (R109 : Nat → Nat → Option Nat), r = some (.int r109) ∧ h' = (85, I109, J109, R109) ∧ ow_RF R109 ∧ ((r109 = 0 → ((3 ≤ (I109 74 4) → (ow_AM M_Mo_begins d [.ref 70, .ref (1000 + 5), .int 0] (85, I109, J109, R109) (fun r h' => ∃ (r110 : Int32) (I110 : Nat → Nat → Int32) (J110 : Nat → Nat → Int64) (R110 : Nat → Nat → Option Nat), r = some (.int r110) ∧ h' = (85, I110, J110, R110) ∧ ow_RF R110 ∧ ((r110 = 0 → ((5 ≤ (I110 74 5) → (ow_AM M_Mo_begins d [.ref 70, .ref (1000 + 6), .int 0] (85, I110, J110, R110) (fun r h' => ∃ (r111 : Int32) (I111 : Nat → Nat → Int32) (J111 : Nat → Nat → Int64) (R111 : Nat → Nat → Option Nat), r = some (.int r111) ∧ h' = (85, I111, J111, R111) ∧ ow_RF R111 ∧ ((r111 = 0 → (ow_AM M_Mo_wrong d [.ref 70, .int 1, .int (I111 70 4)] (85, I111, J111, R111) (fun r h' => ∃ (I112 : Nat → Nat → Int32) (J112 : Nat → Nat → Int64) (R112 : Nat → Nat → Option Nat), r = none ∧ h' = (85, I112, J112, R112) ∧ ow_RF R112 ∧ Q none (85, I112, J112, R112)))) ∧ (¬ r111 = 0 → (ow_AM M_Mo_signedLine d [.ref 70] (85, I111, J111, R111) (fun r h' => ∃ (I113 : Nat → Nat → Int32) (J113 : Nat → Nat → Int64) (R113 : Nat → Nat → Option Nat), r = none ∧ h' = (85, I113, J113, R113) ∧ ow_RF R113 ∧ Q none (85, I113, J113, R113)))))))) ∧ (¬ 5 ≤ (I110 74 5) → (ow_AM M_Mo_begins d [.ref 70, .ref (1000 + 6), .int 1] (85, I110, J110, R110) (fun r h' => ∃ (r114 : Int32) (I114 : Nat → Nat → Int32) (J114 : Nat → Nat → Int64) (R114 : Nat → Nat → Option Nat), r = some (.int r114) ∧ h' = (85, I114, J114, R114) ∧ ow_RF R114 ∧ ((r114 = 0 → (ow_AM M_Mo_wrong d [.ref 70, .int 1, .int (I114 70 4)] (85, I114, J114, R114) (fun r h' => ∃ (I115 : Nat → Nat → Int32) (J115 : Nat → Nat → Int64) (R115 : Nat → Nat → Option Nat), r = none ∧ h' = (85, I115, J115, R115) ∧ ow_RF R115 ∧ Q none (85, I115, J115, R115)))) ∧ (¬ r114 = 0 → (ow_AM M_Mo_signedLine d [.ref 70] (85, I114, J114, R114) (fun r h' => ∃ (I116 : Nat → Nat → Int32) (J116 : Nat → Nat → Int64) (R116 : Nat → Nat → Option Nat), r = none ∧ h' = (85, I116, J116, R116) ∧ ow_RF R116 ∧ Q none (85, I116, J116, R116)))))))))) ∧ (¬ r110 = 0 → (ow_AM M_Mo_veiledLine d [.ref 70] (85, I110, J110, R110) (fun r h' => ∃ (I117 : Nat → Nat → Int32) (J117 : Nat → Nat → Int64) (R117 : Nat → Nat → Option Nat), r = none ∧ h' = (85, I117, J117, R117) ∧ ow_RF R117 ∧ Q none (85, I117, J117, R117)))))))) ∧ (¬ 3 ≤ (I109 74 4) → (ow_AM M_Mo_begins d [.ref 70, .ref (1000 + 5), .int 1] (85, I109, J109, R109) (fun r h' => ∃ (r118 : Int32) (I118 : Nat → Nat → Int32) (J118 : Nat → Nat → Int64) (R118 : Nat → Nat → Option Nat), r = some (.int r118) ∧ h' = (85, I118, J118, R118) ∧ ow_RF R118 ∧ ((r118 = 0 → ((5 ≤ (I118 74 5) → (ow_AM M_Mo_begins d [.ref 70, .ref (1000 + 6), .int 0] (85, I118, J118, R118) (fun r h' => ∃ (r119 : Int32) (I119 : Nat → Nat → Int32) (J119 : Nat → Nat → Int64) (R119 : Nat → Nat → Option Nat), r = some (.int r119) ∧ h' = (85, I119, J119, R119) ∧ ow_RF R119 ∧ ((r119 = 0 → (ow_AM M_Mo_wrong d [.ref 70, .int 1, .int (I119 70 4)] (85, I119, J119, R119) (fun r h' => ∃ (I120 : Nat → Nat → Int32) (J120 : Nat → Nat → Int64) (R120 : Nat → Nat → Option Nat), r = none ∧ h' = (85, I120, J120, R120) ∧ ow_RF R120 ∧ Q none (85, I120, J120, R120)))) ∧ (¬ r119 = 0 → (ow_AM M_Mo_signedLine d [.ref 70] (85, I119, J119, R119) (fun r h' => ∃ (I121 : Nat → Nat → Int32) (J121 : Nat → Nat → Int64) (R121 : Nat → Nat → Option Nat), r = none ∧ h' = (85, I121, J121, R121) ∧ ow_RF R121 ∧ Q none (85, I121, J121, R121)))))))) ∧ (¬ 5 ≤ (I118 74 5) → (ow_AM M_Mo_begins d [.ref 70, .ref (1000 + 6), .int 1] (85, I118, J118, R118) (fun r h' => ∃ (r122 : Int32) (I122 : Nat → Nat → Int32) (J122 : Nat → Nat → Int64) (R122 : Nat → Nat → Option Nat), r = some (.int r122) ∧ h' = (85, I122, J122, R122) ∧ ow_RF R122 ∧ ((r122 = 0 → (ow_AM M_Mo_wrong d [.ref 70, .int 1, .int (I122 70 4)] (85, I122, J122, R122) (fun r h' => ∃ (I123 : Nat → Nat → Int32) (J123 : Nat → Nat → Int64) (R123 : Nat → Nat → Option Nat), r = none ∧ h' = (85, I123, J123, R123) ∧ ow_RF R123 ∧ Q none (85, I123, J123, R123)))) ∧ (¬ r122 = 0 → (ow_AM M_Mo_signedLine d [.ref 70] (85, I122, J122, R122) (fun r h' => ∃ (I124 : Nat → Nat → Int32) (J124 : Nat → Nat → Int64) (R124 : Nat → Nat → Option Nat), r = none ∧ h' = (85, I124, J124, R124) ∧ ow_RF R124 ∧ Q none (85, I124, J124, R124)))))))))) ∧ (¬ r118 = 0 → (ow_AM M_Mo_veiledLine d [.ref 70] (85, I118, J118, R118) (fun r h' => ∃ (I125 : Nat → Nat → Int32) (J125 : Nat → Nat → Int64) (R125 : Nat → Nat → Option Nat), r = none ∧ h' = (85, I125, J125, R125) ∧ ow_RF R125 ∧ Q none (85, I125, J125, R125)))))))))) ∧ (¬ r109 = 0 → (ow_AM M_Mo_estateLine d [.ref 70] (85, I109, J109, R109) (fun r h' => ∃ (I126 : Nat → Nat → Int32) (J126 : Nat → Nat → Int64) (R126 : Nat → Nat → Option Nat), r = none ∧ h' = (85, I126, J126, R126) ∧ ow_RF R126 ∧ Q none (85, I126, J126, R126)))))))))) ∧ (¬ r90 = 0 → (ow_AM M_Mo_hermitLine d [.ref 70] (85, I90, J90, R90) (fun r h' => ∃ (I127 : Nat → Nat → Int32) (J127 : Nat → Nat → Int64) (R127 : Nat → Nat → Option Nat), r = none ∧ h' = (85, I127, J127, R127) ∧ ow_RF R127 ∧ Q none (85, I127, J127, R127)))))))) ∧ (¬ r89 = 0 → (ow_AM M_Mo_sendsLine d [.ref 70] (85, I89, J89, R89) (fun r h' => ∃ (I128 : Nat → Nat → Int32) (J128 : Nat → Nat → Int64) (R128 : Nat → Nat → Option Nat), r = none ∧ h' = (85, I128, J128, R128) ∧ ow_RF R128 ∧ Q none (85, I128, J128, R128)))))))) ∧ (¬ r88 = 0 → (ow_AM M_Mo_follyLine d [.ref 70] (85, I88, J88, R88) (fun r h' => ∃ (I129 : Nat → Nat → Int32) (J129 : Nat → Nat → Int64) (R129 : Nat → Nat → Option Nat), r = none ∧ h' = (85, I129, J129, R129) ∧ ow_RF R129 ∧ Q none (85, I129, J129, R129)))))))) ∧ (¬ 6 ≤ (I87 74 2) → (ow_AM M_Mo_begins d [.ref 70, .ref (1000 + 1), .int 1] (85, I87, J87, R87) (fun r h' => ∃ (r130 : Int32) (I130 : Nat → Nat → Int32) (J130 : Nat → Nat → Int64) (R130 : Nat → Nat → Option Nat), r = some (.int r130) ∧ h' = (85, I130, J130, R130) ∧ ow_RF R130 ∧ ((r130 = 0 → (ow_AM M_Mo_begins d [.ref 70, .ref (1000 + 2), .int 1] (85, I130, J130, R130) (fun r h' => ∃ (r131 : Int32) (I131 : Nat → Nat → Int32) (J131 : Nat → Nat → Int64) (R131 : Nat → Nat → Option Nat), r = some (.int r131) ∧ h' = (85, I131, J131, R131) ∧ ow_RF R131 ∧ ((r131 = 0 → (ow_AM M_Mo_begins d [.ref 70, .ref (1000 + 3), .int 1] (85, I131, J131, R131) (fun r h' => ∃ (r132 : Int32) (I132 : Nat → Nat → Int32) (J132 : Nat → Nat → Int64) (R132 : Nat → Nat → Option Nat), r = some (.int r132) ∧ h' = (85, I132, J132, R132) ∧ ow_RF R132 ∧ ((r132 = 0 → ((5 ≤ (I132 74 3) → (ow_AM M_Mo_begins d [.ref 70, .ref (1000 + 4), .int 0] (85, I132, J132, R132) (fun r h' => ∃ (r133 : Int32) (I133 : Nat → Nat → Int32) (J133 : Nat → Nat → Int64) (R133 : Nat → Nat → Option Nat), r = some (.int r133) ∧ h' = (85, I133, J133, R133) ∧ ow_RF R133 ∧ ((r133 = 0 → ((3 ≤ (I133 74 4) → (ow_AM M_Mo_begins d [.ref 70, .ref (1000 + 5), .int 0] (85, I133, J133, R133) (fun r h' => ∃ (r134 : Int32) (I134 : Nat → Nat → Int32) (J134 : Nat → Nat → Int64) (R134 : Nat → Nat → Option Nat), r = some (.int r134) ∧ h' = (85, I134, J134, R134) ∧ ow_RF R134 ∧ ((r134 = 0 → ((5 ≤ (I134 74 5) → (ow_AM M_Mo_begins d [.ref 70, .ref (1000 + 6), .int 0] (85, I134, J134, R134) (fun r h' => ∃ (r135 : Int32) (I135 : Nat → Nat → Int32) (J135 : Nat → Nat → Int64) (R135 : Nat → Nat → Option Nat), r = some (.int r135) ∧ h' = (85, I135, J135, R135) ∧ ow_RF R135 ∧ ((r135 = 0 → (ow_AM M_Mo_wrong d [.ref 70, .int 1, .int (I135 70 4)] (85, I135, J135, R135) (fun r h' => ∃ (I136 : Nat → Nat → Int32) (J136 : Nat → Nat → Int64) (R136 : Nat → Nat → Option Nat), r = none ∧ h' = (85, I136, J136, R136) ∧ ow_RF R136 ∧ Q none (85, I136, J136, R136)))) ∧ (¬ r135 = 0 → (ow_AM M_Mo_signedLine d [.ref 70] (85, I135, J135, R135) (fun r h' => ∃ (I137 : Nat → Nat → Int32) (J137 : Nat → Nat → Int64) (R137 : Nat → Nat → Option Nat), r = none ∧ h' = (85, I137, J137, R137) ∧ ow_RF R137 ∧ Q none (85, I137, J137, R137)))))))) ∧ (¬ 5 ≤ (I134 74 5) → (ow_AM M_Mo_begins d [.ref 70, .ref (1000 + 6), .int 1] (85, I134, J134, R134) (fun r h' => ∃ (r138 : Int32) (I138 : Nat → Nat → Int32) (J138 : Nat → Nat → Int64) (R138 : Nat → Nat → Option Nat), r = some (.int r138) ∧ h' = (85, I138, J138, R138) ∧ ow_RF R138 ∧ ((r138 = 0 → (ow_AM M_Mo_wrong d [.ref 70, .int 1, .int (I138 70 4)] (85, I138, J138, R138) (fun r h' => ∃ (I139 : Nat → Nat → Int32) (J139 : Nat → Nat → Int64) (R139 : Nat → Nat → Option Nat), r = none ∧ h' = (85, I139, J139, R139) ∧ ow_RF R139 ∧ Q none (85, I139, J139, R139)))) ∧ (¬ r138 = 0 → (ow_AM M_Mo_signedLine d [.ref 70] (85, I138, J138, R138) (fun r h' => ∃ (I140 : Nat → Nat → Int32) (J140 : Nat → Nat → Int64) (R140 : Nat → Nat → Option Nat), r = none ∧ h' = (85, I140, J140, R140) ∧ ow_RF R140 ∧ Q none (85, I140, J140, R140)))))))))) ∧ (¬ r134 = 0 → (ow_AM M_Mo_veiledLine d [.ref 70] (85, I134, J134, R134) (fun r h' => ∃ (I141 : Nat → Nat → Int32) (J141 : Nat → Nat → Int64) (R141 : Nat → Nat → Option Nat), r = none ∧ h' = (85, I141, J141, R141) ∧ ow_RF R141 ∧ Q none (85, I141, J141, R141)))))))) ∧ (¬ 3 ≤ (I133 74 4) → (ow_AM M_Mo_begins d [.ref 70, .ref (1000 + 5), .int 1] (85, I133, J133, R133) (fun r h' => ∃ (r142 : Int32) (I142 : Nat → Nat → Int32) (J142 : Nat → Nat → Int64) (R142 : Nat → Nat → Option Nat), r = some (.int r142) ∧ h' = (85, I142, J142, R142) ∧ ow_RF R142 ∧ ((r142 = 0 → ((5 ≤ (I142 74 5) → (ow_AM M_Mo_begins d [.ref 70, .ref (1000 + 6), .int 0] (85, I142, J142, R142) (fun r h' => ∃ (r143 : Int32) (I143 : Nat → Nat → Int32) (J143 : Nat → Nat → Int64) (R143 : Nat → Nat → Option Nat), r = some (.int r143) ∧ h' = (85, I143, J143, R143) ∧ ow_RF R143 ∧ ((r143 = 0 → (ow_AM M_Mo_wrong d [.ref 70, .int 1, .int (I143 70 4)] (85, I143, J143, R143) (fun r h' => ∃ (I144 : Nat → Nat → Int32) (J144 : Nat → Nat → Int64) (R144 : Nat → Nat → Option Nat), r = none ∧ h' = (85, I144, J144, R144) ∧ ow_RF R144 ∧ Q none (85, I144, J144, R144)))) ∧ (¬ r143 = 0 → (ow_AM M_Mo_signedLine d [.ref 70] (85, I143, J143, R143) (fun r h' => ∃ (I145 : Nat → Nat → Int32) (J145 : Nat → Nat → Int64) (R145 : Nat → Nat → Option Nat), r = none ∧ h' = (85, I145, J145, R145) ∧ ow_RF R145 ∧ Q none (85, I145, J145, R145)))))))) ∧ (¬ 5 ≤ (I142 74 5) → (ow_AM M_Mo_begins d [.ref 70, .ref (1000 + 6), .int 1] (85, I142, J142, R142) (fun r h' => ∃ (r146 : Int32) (I146 : Nat → Nat → Int32) (J146 : Nat → Nat → Int64) (R146 : Nat → Nat → Option Nat), r = some (.int r146) ∧ h' = (85, I146, J146, R146) ∧ ow_RF R146 ∧ ((r146 = 0 → (ow_AM M_Mo_wrong d [.ref 70, .int 1, .int (I146 70 4)] (85, I146, J146, R146) (fun r h' => ∃ (I147 : Nat → Nat → Int32) (J147 : Nat → Nat → Int64) (R147 : Nat → Nat → Option Nat), r = none ∧ h' = (85, I147, J147, R147) ∧ ow_RF R147 ∧ Q none (85, I147, J147, R147)))) ∧ (¬ r146 = 0 → (ow_AM M_Mo_signedLine d [.ref 70] (85, I146, J146, R146) (fun r h' => ∃ (I148 : Nat → Nat → Int32) (J148 : Nat → Nat → Int64) (R148 : Nat → Nat → Option Nat), r = none ∧ h' = (85, I148, J148, R148) ∧ ow_RF R148 ∧ Q none (85, I148, J148, R148)))))))))) ∧ (¬ r142 = 0 → (ow_AM M_Mo_veiledLine d [.ref 70] (85, I142, J142, R142) (fun r h' => ∃ (I149 : Nat → Nat → Int32) (J149 : Nat → Nat → Int64) (R149 : Nat → Nat → Option Nat), r = none ∧ h' = (85, I149, J149, R149) ∧ ow_RF R149 ∧ Q none (85, I149, J149, R149)))))))))) ∧ (¬ r133 = 0 → (ow_AM M_Mo_estateLine d [.ref 70] (85, I133, J133, R133) (fun r h' => ∃ (I150 : Nat → Nat → Int32) (J150 : Nat → Nat → Int64) (R150 : Nat → Nat → Option Nat), r = none ∧ h' = (85, I150, J150, R150) ∧ ow_RF R150 ∧ Q none (85, I150, J150, R150)))))))) ∧ (¬ 5 ≤ (I132 74 3) → (ow_AM M_Mo_begins d [.ref 70, .ref (1000 + 4), .int 1] (85, I132, J132, R132) (fun r h' => ∃ (r151 : Int32) (I151 : Nat → Nat → Int32) (J151 : Nat → Nat → Int64) (R151 : Nat → Nat → Option Nat), r = some (.int r151) ∧ h' = (85, I151, J151, R151) ∧ ow_RF R151 ∧ ((r151 = 0 → ((3 ≤ (I151 74 4) → (ow_AM M_Mo_begins d [.ref 70, .ref (1000 + 5), .int 0] (85, I151, J151, R151) (fun r h' => ∃ (r152 : Int32) (I152 : Nat → Nat → Int32) (J152 : Nat → Nat → Int64) (R152 : Nat → Nat → Option Nat), r = some (.int r152) ∧ h' = (85, I152, J152, R152) ∧ ow_RF R152 ∧ ((r152 = 0 → ((5 ≤ (I152 74 5) → (ow_AM M_Mo_begins d [.ref 70, .ref (1000 + 6), .int 0] (85, I152, J152, R152) (fun r h' => ∃ (r153 : Int32) (I153 : Nat → Nat → Int32) (J153 : Nat → Nat → Int64) (R153 : Nat → Nat → Option Nat), r = some (.int r153) ∧ h' = (85, I153, J153, R153) ∧ ow_RF R153 ∧ ((r153 = 0 → (ow_AM M_Mo_wrong d [.ref 70, .int 1, .int (I153 70 4)] (85, I153, J153, R153) (fun r h' => ∃ (I154 : Nat → Nat → Int32) (J154 : Nat → Nat → Int64) (R154 : Nat → Nat → Option Nat), r = none ∧ h' = (85, I154, J154, R154) ∧ ow_RF R154 ∧ Q none (85, I154, J154, R154)))) ∧ (¬ r153 = 0 → (ow_AM M_Mo_signedLine d [.ref 70] (85, I153, J153, R153) (fun r h' => ∃ (I155 : Nat → Nat → Int32) (J155 : Nat → Nat → Int64) (R155 : Nat → Nat → Option Nat), r = none ∧ h' = (85, I155, J155, R155) ∧ ow_RF R155 ∧ Q none (85, I155, J155, R155)))))))) ∧ (¬ 5 ≤ (I152 74 5) → (ow_AM M_Mo_begins d [.ref 70, .ref (1000 + 6), .int 1] (85, I152, J152, R152) (fun r h' => ∃ (r156 : Int32) (I156 : Nat → Nat → Int32) (J156 : Nat → Nat → Int64) (R156 : Nat → Nat → Option Nat), r = some (.int r156) ∧ h' = (85, I156, J156, R156) ∧ ow_RF R156 ∧ ((r156 = 0 → (ow_AM M_Mo_wrong d [.ref 70, .int 1, .int (I156 70 4)] (85, I156, J156, R156) (fun r h' => ∃ (I157 : Nat → Nat → Int32) (J157 : Nat → Nat → Int64) (R157 : Nat → Nat → Option Nat), r = none ∧ h' = (85, I157, J157, R157) ∧ ow_RF R157 ∧ Q none (85, I157, J157, R157)))) ∧ (¬ r156 = 0 → (ow_AM M_Mo_signedLine d [.ref 70] (85, I156, J156, R156) (fun r h' => ∃ (I158 : Nat → Nat → Int32) (J158 : Nat → Nat → Int64) (R158 : Nat → Nat → Option Nat), r = none ∧ h' = (85, I158, J158, R158) ∧ ow_RF R158 ∧ Q none (85, I158, J158, R158)))))))))) ∧ (¬ r152 = 0 → (ow_AM M_Mo_veiledLine d [.ref 70] (85, I152, J152, R152) (fun r h' => ∃ (I159 : Nat → Nat → Int32) (J159 : Nat → Nat → Int64) (R159 : Nat → Nat → Option Nat), r = none ∧ h' = (85, I159, J159, R159) ∧ ow_RF R159 ∧ Q none (85, I159, J159, R159)))))))) ∧ (¬ 3 ≤ (I151 74 4) → (ow_AM M_Mo_begins d [.ref 70, .ref (1000 + 5), .int 1] (85, I151, J151, R151) (fun r h' => ∃ (r160 : Int32) (I160 : Nat → Nat → Int32) (J160 : Nat → Nat → Int64) (R160 : Nat → Nat → Option Nat), r = some (.int r160) ∧ h' = (85, I160, J160, R160) ∧ ow_RF R160 ∧ ((r160 = 0 → ((5 ≤ (I160 74 5) → (ow_AM M_Mo_begins d [.ref 70, .ref (1000 + 6), .int 0] (85, I160, J160, R160) (fun r h' => ∃ (r161 : Int32) (I161 : Nat → Nat → Int32) (J161 : Nat → Nat → Int64) (R161 : Nat → Nat → Option Nat), r = some (.int r161) ∧ h' = (85, I161, J161, R161) ∧ ow_RF R161 ∧ ((r161 = 0 → (ow_AM M_Mo_wrong d [.ref 70, .int 1, .int (I161 70 4)] (85, I161, J161, R161) (fun r h' => ∃ (I162 : Nat → Nat → Int32) (J162 : Nat → Nat → Int64) (R162 : Nat → Nat → Option Nat), r = none ∧ h' = (85, I162, J162, R162) ∧ ow_RF R162 ∧ Q none (85, I162, J162, R162)))) ∧ (¬ r161 = 0 → (ow_AM M_Mo_signedLine d [.ref 70] (85, I161, J161, R161) (fun r h' => ∃ (I163 : Nat → Nat → Int32) (J163 : Nat → Nat → Int64) (R163 : Nat → Nat → Option Nat), r = none ∧ h' = (85, I163, J163, R163) ∧ ow_RF R163 ∧ Q none (85, I163, J163, R163)))))))) ∧ (¬ 5 ≤ (I160 74 5) → (ow_AM M_Mo_begins d [.ref 70, .ref (1000 + 6), .int 1] (85, I160, J160, R160) (fun r h' => ∃ (r164 : Int32) (I164 : Nat → Nat → Int32) (J164 : Nat → Nat → Int64) (R164 : Nat → Nat → Option Nat), r = some (.int r164) ∧ h' = (85, I164, J164, R164) ∧ ow_RF R164 ∧ ((r164 = 0 → (ow_AM M_Mo_wrong d [.ref 70, .int 1, .int (I164 70 4)] (85, I164, J164, R164) (fun r h' => ∃ (I165 : Nat → Nat → Int32) (J165 : Nat → Nat → Int64) (R165 : Nat → Nat → Option Nat), r = none ∧ h' = (85, I165, J165, R165) ∧ ow_RF R165 ∧ Q none (85, I165, J165, R165)))) ∧ (¬ r164 = 0 → (ow_AM M_Mo_signedLine d [.ref 70] (85, I164, J164, R164) (fun r h' => ∃ (I166 : Nat → Nat → Int32) (J166 : Nat → Nat → Int64) (R166 : Nat → Nat → Option Nat), r = none ∧ h' = (85, I166, J166, R166) ∧ ow_RF R166 ∧ Q none (85, I166, J166, R166)))))))))) ∧ (¬ r160 = 0 → (ow_AM M_Mo_veiledLine d [.ref 70] (85, I160, J160, R160) (fun r h' => ∃ (I167 : Nat → Nat → Int32) (J167 : Nat → Nat → Int64) (R167 : Nat → Nat → Option Nat), r = none ∧ h' = (85, I167, J167, R167) ∧ ow_RF R167 ∧ Q none (85, I167, J167, R167)))))))))) ∧ (¬ r151 = 0 → (ow_AM M_Mo_estateLine d [.ref 70] (85, I151, J151, R151) (fun r h' => ∃ (I168 : Nat → Nat → Int32) (J168 : Nat → Nat → Int64) (R168 : Nat → Nat → Option Nat), r = none ∧ h' = (85, I168, J168, R168) ∧ ow_RF R168 ∧ Q none (85, I168, J168, R168)))))))))) ∧ (¬ r132 = 0 → (ow_AM M_Mo_hermitLine d [.ref 70] (85, I132, J132, R132) (fun r h' => ∃ (I169 : Nat → Nat → Int32) (J169 : Nat → Nat → Int64) (R169 : Nat → Nat → Option Nat), r = none ∧ h' = (85, I169, J169, R169) ∧ ow_RF R169 ∧ Q none (85, I169, J169, R169)))))))) ∧ (¬ r131 = 0 → (ow_AM M_Mo_sendsLine d [.ref 70] (85, I131, J131, R131) (fun r h' => ∃ (I170 : Nat → Nat → Int32) (J170 : Nat → Nat → Int64) (R170 : Nat → Nat → Option Nat), r = none ∧ h' = (85, I170, J170, R170) ∧ ow_RF R170 ∧ Q none (85, I170, J170, R170)))))))) ∧ (¬ r130 = 0 → (ow_AM M_Mo_follyLine d [.ref 70] (85, I130, J130, R130) (fun r h' => ∃ (I171 : Nat → Nat → Int32) (J171 : Nat → Nat → Int64) (R171 : Nat → Nat → Option Nat), r = none ∧ h' = (85, I171, J171, R171) ∧ ow_RF R171 ∧ Q none (85, I171, J171, R171)))))))))) ∧ (¬ r87 = 0 → (ow_AM M_Mo_shireLine d [.ref 70] (85, I87, J87, R87) (fun r h' => ∃ (I172 : Nat → Nat → Int32) (J172 : Nat → Nat → Int64) (R172 : Nat → Nat → Option Nat), r = none ∧ h' = (85, I172, J172, R172) ∧ ow_RF R172 ∧ Q none (85, I172, J172, R172)))))))) : ow_AM M_Mo_readLine (d + 1) [.ref 70] (85, I, J, R) Q := by
  refine ow_enter (by decide) (Nat.le_of_ble_eq_true rfl) ?_
  show ow_AW ow_Y0 (ow_Z Q) M_Mo_readLine (d + 1) 0 0 0 [(0, .ref 70)] [] (85, I, J, R) 0 0
  refine ow_aload_n 0 rfl d_Mo_readLine_0 ?_
  refine ow_ldS (tx := "shire") (i := 0) 19 d_Mo_readLine_1 rfl ?_
  refine ow_callV (b := 70) (cq := 12) (As := [.ref (1000 + 0)]) (rest := []) (d2 := d) d_Mo_readLine_3 l_Mo_108 v_Mo_isWord (show 70 < 85 by decide) rfl (by decide) rfl (Nat.le_of_ble_eq_true rfl) (Nat.le_refl _) ⟨Nat.le_refl _, Nat.le_refl _⟩ (ow_mono T ?_)
  rintro r h' ⟨r87, I87, J87, R87, rfl, rfl, hR87, T⟩
  show ow_AW ow_Y0 (ow_Z Q) M_Mo_readLine (d + 1) 0 0 6 [(0, .ref 70)] [.int r87] (85, I87, J87, R87) 0 0
  refine ow_if_eq (tgt := 16) d_Mo_readLine_6 (by decide) (fun c => ?_) (fun c => ?_)
  · replace T := T.1 c
    refine ow_aload_n 0 rfl d_Mo_readLine_16 ?_
    refine ow_ldS (tx := "folly") (i := 1) 22 d_Mo_readLine_17 rfl ?_
    refine ow_aload_n 0 rfl d_Mo_readLine_19 ?_
    refine ow_gR (a := 74) 185 d_Mo_readLine_20 rfl rfl (by decide) rfl ⟨rfl, hR87 70 16 (by decide)⟩ ?_
    refine ow_iconst (v := 2) (by decide) d_Mo_readLine_23 ?_
    refine ow_hiaload d_Mo_readLine_24 (by decide) rfl rfl (show vp_in (2 : Int32) 146 by unfold vp_in; decide) ?_
    show ow_AW ow_Y0 (ow_Z Q) M_Mo_readLine (d + 1) 0 0 25 [(0, .ref 70)] [.int (I87 74 2), .ref (1000 + 1), .ref 70] (85, I87, J87, R87) 0 0
    refine ow_bipush (v := 6) (by decide) d_Mo_readLine_25 ?_
    refine ow_icmp_ge (tgt := 34) d_Mo_readLine_27 (by decide) (fun c => ?_) (fun c => ?_)
    · replace T := T.1 c
      refine ow_iconst (v := 0) (by decide) d_Mo_readLine_34 ?_
      refine ow_callV (b := 70) (cq := 12) (As := [.ref (1000 + 1), .int 0]) (rest := []) (d2 := d) d_Mo_readLine_35 l_Mo_182 v_Mo_begins (show 70 < 85 by decide) rfl (by decide) rfl (Nat.le_of_ble_eq_true rfl) (Nat.le_refl _) ⟨Nat.le_refl _, Nat.le_refl _⟩ (ow_mono T ?_)
      rintro r h' ⟨r88, I88, J88, R88, rfl, rfl, hR88, T⟩
      show ow_AW ow_Y0 (ow_Z Q) M_Mo_readLine (d + 1) 0 0 38 [(0, .ref 70)] [.int r88] (85, I88, J88, R88) 0 0
      refine ow_if_eq (tgt := 48) d_Mo_readLine_38 (by decide) (fun c => ?_) (fun c => ?_)
      · replace T := T.1 c
        refine ow_aload_n 0 rfl d_Mo_readLine_48 ?_
        refine ow_ldS (tx := "sends") (i := 2) 23 d_Mo_readLine_49 rfl ?_
        refine ow_iconst (v := 1) (by decide) d_Mo_readLine_51 ?_
        refine ow_callV (b := 70) (cq := 12) (As := [.ref (1000 + 2), .int 1]) (rest := []) (d2 := d) d_Mo_readLine_52 l_Mo_182 v_Mo_begins (show 70 < 85 by decide) rfl (by decide) rfl (Nat.le_of_ble_eq_true rfl) (Nat.le_refl _) ⟨Nat.le_refl _, Nat.le_refl _⟩ (ow_mono T ?_)
        rintro r h' ⟨r89, I89, J89, R89, rfl, rfl, hR89, T⟩
        show ow_AW ow_Y0 (ow_Z Q) M_Mo_readLine (d + 1) 0 0 55 [(0, .ref 70)] [.int r89] (85, I89, J89, R89) 0 0
        refine ow_if_eq (tgt := 65) d_Mo_readLine_55 (by decide) (fun c => ?_) (fun c => ?_)
        · replace T := T.1 c
          refine ow_aload_n 0 rfl d_Mo_readLine_65 ?_
          refine ow_ldS (tx := "hermit") (i := 3) 24 d_Mo_readLine_66 rfl ?_
          refine ow_iconst (v := 1) (by decide) d_Mo_readLine_68 ?_
          refine ow_callV (b := 70) (cq := 12) (As := [.ref (1000 + 3), .int 1]) (rest := []) (d2 := d) d_Mo_readLine_69 l_Mo_182 v_Mo_begins (show 70 < 85 by decide) rfl (by decide) rfl (Nat.le_of_ble_eq_true rfl) (Nat.le_refl _) ⟨Nat.le_refl _, Nat.le_refl _⟩ (ow_mono T ?_)
          rintro r h' ⟨r90, I90, J90, R90, rfl, rfl, hR90, T⟩
          show ow_AW ow_Y0 (ow_Z Q) M_Mo_readLine (d + 1) 0 0 72 [(0, .ref 70)] [.int r90] (85, I90, J90, R90) 0 0
          refine ow_if_eq (tgt := 82) d_Mo_readLine_72 (by decide) (fun c => ?_) (fun c => ?_)
          · replace T := T.1 c
            refine ow_aload_n 0 rfl d_Mo_readLine_82 ?_
            refine ow_ldS (tx := "estate") (i := 4) 25 d_Mo_readLine_83 rfl ?_
            refine ow_aload_n 0 rfl d_Mo_readLine_85 ?_
            refine ow_gR (a := 74) 185 d_Mo_readLine_86 rfl rfl (by decide) rfl ⟨rfl, hR90 70 16 (by decide)⟩ ?_
            refine ow_iconst (v := 3) (by decide) d_Mo_readLine_89 ?_
            refine ow_hiaload d_Mo_readLine_90 (by decide) rfl rfl (show vp_in (3 : Int32) 146 by unfold vp_in; decide) ?_
            show ow_AW ow_Y0 (ow_Z Q) M_Mo_readLine (d + 1) 0 0 91 [(0, .ref 70)] [.int (I90 74 3), .ref (1000 + 4), .ref 70] (85, I90, J90, R90) 0 0
            refine ow_iconst (v := 5) (by decide) d_Mo_readLine_91 ?_
            refine ow_icmp_ge (tgt := 99) d_Mo_readLine_92 (by decide) (fun c => ?_) (fun c => ?_)
            · replace T := T.1 c
              refine ow_iconst (v := 0) (by decide) d_Mo_readLine_99 ?_
              refine ow_callV (b := 70) (cq := 12) (As := [.ref (1000 + 4), .int 0]) (rest := []) (d2 := d) d_Mo_readLine_100 l_Mo_182 v_Mo_begins (show 70 < 85 by decide) rfl (by decide) rfl (Nat.le_of_ble_eq_true rfl) (Nat.le_refl _) ⟨Nat.le_refl _, Nat.le_refl _⟩ (ow_mono T ?_)
              rintro r h' ⟨r91, I91, J91, R91, rfl, rfl, hR91, T⟩
              show ow_AW ow_Y0 (ow_Z Q) M_Mo_readLine (d + 1) 0 0 103 [(0, .ref 70)] [.int r91] (85, I91, J91, R91) 0 0
              refine ow_if_eq (tgt := 113) d_Mo_readLine_103 (by decide) (fun c => ?_) (fun c => ?_)
              · replace T := T.1 c
                refine ow_aload_n 0 rfl d_Mo_readLine_113 ?_
                refine ow_ldS (tx := "veiled") (i := 5) 26 d_Mo_readLine_114 rfl ?_
                refine ow_aload_n 0 rfl d_Mo_readLine_116 ?_
                refine ow_gR (a := 74) 185 d_Mo_readLine_117 rfl rfl (by decide) rfl ⟨rfl, hR91 70 16 (by decide)⟩ ?_
                refine ow_iconst (v := 4) (by decide) d_Mo_readLine_120 ?_
                refine ow_hiaload d_Mo_readLine_121 (by decide) rfl rfl (show vp_in (4 : Int32) 146 by unfold vp_in; decide) ?_
                show ow_AW ow_Y0 (ow_Z Q) M_Mo_readLine (d + 1) 0 0 122 [(0, .ref 70)] [.int (I91 74 4), .ref (1000 + 5), .ref 70] (85, I91, J91, R91) 0 0
                refine ow_iconst (v := 3) (by decide) d_Mo_readLine_122 ?_
                refine ow_icmp_ge (tgt := 130) d_Mo_readLine_123 (by decide) (fun c => ?_) (fun c => ?_)
                · replace T := T.1 c
                  refine ow_iconst (v := 0) (by decide) d_Mo_readLine_130 ?_
                  refine ow_callV (b := 70) (cq := 12) (As := [.ref (1000 + 5), .int 0]) (rest := []) (d2 := d) d_Mo_readLine_131 l_Mo_182 v_Mo_begins (show 70 < 85 by decide) rfl (by decide) rfl (Nat.le_of_ble_eq_true rfl) (Nat.le_refl _) ⟨Nat.le_refl _, Nat.le_refl _⟩ (ow_mono T ?_)
                  rintro r h' ⟨r92, I92, J92, R92, rfl, rfl, hR92, T⟩
                  show ow_AW ow_Y0 (ow_Z Q) M_Mo_readLine (d + 1) 0 0 134 [(0, .ref 70)] [.int r92] (85, I92, J92, R92) 0 0
                  refine ow_if_eq (tgt := 144) d_Mo_readLine_134 (by decide) (fun c => ?_) (fun c => ?_)
                  · replace T := T.1 c
                    refine ow_aload_n 0 rfl d_Mo_readLine_144 ?_
                    refine ow_ldS (tx := "signed") (i := 6) 27 d_Mo_readLine_145 rfl ?_
                    refine ow_aload_n 0 rfl d_Mo_readLine_147 ?_
                    refine ow_gR (a := 74) 185 d_Mo_readLine_148 rfl rfl (by decide) rfl ⟨rfl, hR92 70 16 (by decide)⟩ ?_
                    refine ow_iconst (v := 5) (by decide) d_Mo_readLine_151 ?_
                    refine ow_hiaload d_Mo_readLine_152 (by decide) rfl rfl (show vp_in (5 : Int32) 146 by unfold vp_in; decide) ?_
                    show ow_AW ow_Y0 (ow_Z Q) M_Mo_readLine (d + 1) 0 0 153 [(0, .ref 70)] [.int (I92 74 5), .ref (1000 + 6), .ref 70] (85, I92, J92, R92) 0 0
                    refine ow_iconst (v := 5) (by decide) d_Mo_readLine_153 ?_
                    refine ow_icmp_ge (tgt := 161) d_Mo_readLine_154 (by decide) (fun c => ?_) (fun c => ?_)
                    · replace T := T.1 c
                      refine ow_iconst (v := 0) (by decide) d_Mo_readLine_161 ?_
                      refine ow_callV (b := 70) (cq := 12) (As := [.ref (1000 + 6), .int 0]) (rest := []) (d2 := d) d_Mo_readLine_162 l_Mo_182 v_Mo_begins (show 70 < 85 by decide) rfl (by decide) rfl (Nat.le_of_ble_eq_true rfl) (Nat.le_refl _) ⟨Nat.le_refl _, Nat.le_refl _⟩ (ow_mono T ?_)
                      rintro r h' ⟨r93, I93, J93, R93, rfl, rfl, hR93, T⟩
                      show ow_AW ow_Y0 (ow_Z Q) M_Mo_readLine (d + 1) 0 0 165 [(0, .ref 70)] [.int r93] (85, I93, J93, R93) 0 0
                      refine ow_if_eq (tgt := 175) d_Mo_readLine_165 (by decide) (fun c => ?_) (fun c => ?_)
                      · replace T := T.1 c
                        refine ow_aload_n 0 rfl d_Mo_readLine_175 ?_
                        refine ow_iconst (v := 1) (by decide) d_Mo_readLine_176 ?_
                        refine ow_aload_n 0 rfl d_Mo_readLine_177 ?_
                        refine ow_gI 173 d_Mo_readLine_178 rfl rfl (by decide) rfl (Or.inl rfl) ?_
                        refine ow_callV (b := 70) (cq := 12) (As := [.int 1, .int (I93 70 4)]) (rest := []) (d2 := d) d_Mo_readLine_181 l_Mo_118 v_Mo_wrong (show 70 < 85 by decide) rfl (by decide) rfl (Nat.le_of_ble_eq_true rfl) (Nat.le_refl _) ⟨Nat.le_refl _, Nat.le_refl _⟩ (ow_mono T ?_)
                        rintro r h' ⟨I94, J94, R94, rfl, rfl, hR94, T⟩
                        show ow_AW ow_Y0 (ow_Z Q) M_Mo_readLine (d + 1) 0 0 184 [(0, .ref 70)] [] (85, I94, J94, R94) 0 0
                        exact ow_vret d_Mo_readLine_184 rfl T
                      · replace T := T.2 c
                        refine ow_aload_n 0 rfl d_Mo_readLine_168 ?_
                        refine ow_callV (b := 70) (cq := 12) (As := []) (rest := []) (d2 := d) d_Mo_readLine_169 l_Mo_201 v_Mo_signedLine (show 70 < 85 by decide) rfl (by decide) rfl (Nat.le_of_ble_eq_true rfl) (Nat.le_refl _) ⟨Nat.le_refl _, Nat.le_refl _⟩ (ow_mono T ?_)
                        rintro r h' ⟨I95, J95, R95, rfl, rfl, hR95, T⟩
                        show ow_AW ow_Y0 (ow_Z Q) M_Mo_readLine (d + 1) 0 0 172 [(0, .ref 70)] [] (85, I95, J95, R95) 0 0
                        refine ow_goto (tgt := 184) d_Mo_readLine_172 (by decide) ?_
                        exact ow_vret d_Mo_readLine_184 rfl T
                    · replace T := T.2 c
                      refine ow_iconst (v := 1) (by decide) d_Mo_readLine_157 ?_
                      refine ow_goto (tgt := 162) d_Mo_readLine_158 (by decide) ?_
                      refine ow_callV (b := 70) (cq := 12) (As := [.ref (1000 + 6), .int 1]) (rest := []) (d2 := d) d_Mo_readLine_162 l_Mo_182 v_Mo_begins (show 70 < 85 by decide) rfl (by decide) rfl (Nat.le_of_ble_eq_true rfl) (Nat.le_refl _) ⟨Nat.le_refl _, Nat.le_refl _⟩ (ow_mono T ?_)
                      rintro r h' ⟨r96, I96, J96, R96, rfl, rfl, hR96, T⟩
                      show ow_AW ow_Y0 (ow_Z Q) M_Mo_readLine (d + 1) 0 0 165 [(0, .ref 70)] [.int r96] (85, I96, J96, R96) 0 0
                      refine ow_if_eq (tgt := 175) d_Mo_readLine_165 (by decide) (fun c => ?_) (fun c => ?_)
                      · replace T := T.1 c
                        refine ow_aload_n 0 rfl d_Mo_readLine_175 ?_
                        refine ow_iconst (v := 1) (by decide) d_Mo_readLine_176 ?_
                        refine ow_aload_n 0 rfl d_Mo_readLine_177 ?_
                        refine ow_gI 173 d_Mo_readLine_178 rfl rfl (by decide) rfl (Or.inl rfl) ?_
                        refine ow_callV (b := 70) (cq := 12) (As := [.int 1, .int (I96 70 4)]) (rest := []) (d2 := d) d_Mo_readLine_181 l_Mo_118 v_Mo_wrong (show 70 < 85 by decide) rfl (by decide) rfl (Nat.le_of_ble_eq_true rfl) (Nat.le_refl _) ⟨Nat.le_refl _, Nat.le_refl _⟩ (ow_mono T ?_)
                        rintro r h' ⟨I97, J97, R97, rfl, rfl, hR97, T⟩
                        show ow_AW ow_Y0 (ow_Z Q) M_Mo_readLine (d + 1) 0 0 184 [(0, .ref 70)] [] (85, I97, J97, R97) 0 0
                        exact ow_vret d_Mo_readLine_184 rfl T
                      · replace T := T.2 c
                        refine ow_aload_n 0 rfl d_Mo_readLine_168 ?_
                        refine ow_callV (b := 70) (cq := 12) (As := []) (rest := []) (d2 := d) d_Mo_readLine_169 l_Mo_201 v_Mo_signedLine (show 70 < 85 by decide) rfl (by decide) rfl (Nat.le_of_ble_eq_true rfl) (Nat.le_refl _) ⟨Nat.le_refl _, Nat.le_refl _⟩ (ow_mono T ?_)
                        rintro r h' ⟨I98, J98, R98, rfl, rfl, hR98, T⟩
                        show ow_AW ow_Y0 (ow_Z Q) M_Mo_readLine (d + 1) 0 0 172 [(0, .ref 70)] [] (85, I98, J98, R98) 0 0
                        refine ow_goto (tgt := 184) d_Mo_readLine_172 (by decide) ?_
                        exact ow_vret d_Mo_readLine_184 rfl T
                  · replace T := T.2 c
                    refine ow_aload_n 0 rfl d_Mo_readLine_137 ?_
                    refine ow_callV (b := 70) (cq := 12) (As := []) (rest := []) (d2 := d) d_Mo_readLine_138 l_Mo_198 v_Mo_veiledLine (show 70 < 85 by decide) rfl (by decide) rfl (Nat.le_of_ble_eq_true rfl) (Nat.le_refl _) ⟨Nat.le_refl _, Nat.le_refl _⟩ (ow_mono T ?_)
                    rintro r h' ⟨I99, J99, R99, rfl, rfl, hR99, T⟩
                    show ow_AW ow_Y0 (ow_Z Q) M_Mo_readLine (d + 1) 0 0 141 [(0, .ref 70)] [] (85, I99, J99, R99) 0 0
                    refine ow_goto (tgt := 184) d_Mo_readLine_141 (by decide) ?_
                    exact ow_vret d_Mo_readLine_184 rfl T
                · replace T := T.2 c
                  refine ow_iconst (v := 1) (by decide) d_Mo_readLine_126 ?_
                  refine ow_goto (tgt := 131) d_Mo_readLine_127 (by decide) ?_
                  refine ow_callV (b := 70) (cq := 12) (As := [.ref (1000 + 5), .int 1]) (rest := []) (d2 := d) d_Mo_readLine_131 l_Mo_182 v_Mo_begins (show 70 < 85 by decide) rfl (by decide) rfl (Nat.le_of_ble_eq_true rfl) (Nat.le_refl _) ⟨Nat.le_refl _, Nat.le_refl _⟩ (ow_mono T ?_)
                  rintro r h' ⟨r100, I100, J100, R100, rfl, rfl, hR100, T⟩
                  show ow_AW ow_Y0 (ow_Z Q) M_Mo_readLine (d + 1) 0 0 134 [(0, .ref 70)] [.int r100] (85, I100, J100, R100) 0 0
                  refine ow_if_eq (tgt := 144) d_Mo_readLine_134 (by decide) (fun c => ?_) (fun c => ?_)
                  · replace T := T.1 c
                    refine ow_aload_n 0 rfl d_Mo_readLine_144 ?_
                    refine ow_ldS (tx := "signed") (i := 6) 27 d_Mo_readLine_145 rfl ?_
                    refine ow_aload_n 0 rfl d_Mo_readLine_147 ?_
                    refine ow_gR (a := 74) 185 d_Mo_readLine_148 rfl rfl (by decide) rfl ⟨rfl, hR100 70 16 (by decide)⟩ ?_
                    refine ow_iconst (v := 5) (by decide) d_Mo_readLine_151 ?_
                    refine ow_hiaload d_Mo_readLine_152 (by decide) rfl rfl (show vp_in (5 : Int32) 146 by unfold vp_in; decide) ?_
                    show ow_AW ow_Y0 (ow_Z Q) M_Mo_readLine (d + 1) 0 0 153 [(0, .ref 70)] [.int (I100 74 5), .ref (1000 + 6), .ref 70] (85, I100, J100, R100) 0 0
                    refine ow_iconst (v := 5) (by decide) d_Mo_readLine_153 ?_
                    refine ow_icmp_ge (tgt := 161) d_Mo_readLine_154 (by decide) (fun c => ?_) (fun c => ?_)
                    · replace T := T.1 c
                      refine ow_iconst (v := 0) (by decide) d_Mo_readLine_161 ?_
                      refine ow_callV (b := 70) (cq := 12) (As := [.ref (1000 + 6), .int 0]) (rest := []) (d2 := d) d_Mo_readLine_162 l_Mo_182 v_Mo_begins (show 70 < 85 by decide) rfl (by decide) rfl (Nat.le_of_ble_eq_true rfl) (Nat.le_refl _) ⟨Nat.le_refl _, Nat.le_refl _⟩ (ow_mono T ?_)
                      rintro r h' ⟨r101, I101, J101, R101, rfl, rfl, hR101, T⟩
                      show ow_AW ow_Y0 (ow_Z Q) M_Mo_readLine (d + 1) 0 0 165 [(0, .ref 70)] [.int r101] (85, I101, J101, R101) 0 0
                      refine ow_if_eq (tgt := 175) d_Mo_readLine_165 (by decide) (fun c => ?_) (fun c => ?_)
                      · replace T := T.1 c
                        refine ow_aload_n 0 rfl d_Mo_readLine_175 ?_
                        refine ow_iconst (v := 1) (by decide) d_Mo_readLine_176 ?_
                        refine ow_aload_n 0 rfl d_Mo_readLine_177 ?_
                        refine ow_gI 173 d_Mo_readLine_178 rfl rfl (by decide) rfl (Or.inl rfl) ?_
                        refine ow_callV (b := 70) (cq := 12) (As := [.int 1, .int (I101 70 4)]) (rest := []) (d2 := d) d_Mo_readLine_181 l_Mo_118 v_Mo_wrong (show 70 < 85 by decide) rfl (by decide) rfl (Nat.le_of_ble_eq_true rfl) (Nat.le_refl _) ⟨Nat.le_refl _, Nat.le_refl _⟩ (ow_mono T ?_)
                        rintro r h' ⟨I102, J102, R102, rfl, rfl, hR102, T⟩
                        show ow_AW ow_Y0 (ow_Z Q) M_Mo_readLine (d + 1) 0 0 184 [(0, .ref 70)] [] (85, I102, J102, R102) 0 0
                        exact ow_vret d_Mo_readLine_184 rfl T
                      · replace T := T.2 c
                        refine ow_aload_n 0 rfl d_Mo_readLine_168 ?_
                        refine ow_callV (b := 70) (cq := 12) (As := []) (rest := []) (d2 := d) d_Mo_readLine_169 l_Mo_201 v_Mo_signedLine (show 70 < 85 by decide) rfl (by decide) rfl (Nat.le_of_ble_eq_true rfl) (Nat.le_refl _) ⟨Nat.le_refl _, Nat.le_refl _⟩ (ow_mono T ?_)
                        rintro r h' ⟨I103, J103, R103, rfl, rfl, hR103, T⟩
                        show ow_AW ow_Y0 (ow_Z Q) M_Mo_readLine (d + 1) 0 0 172 [(0, .ref 70)] [] (85, I103, J103, R103) 0 0
                        refine ow_goto (tgt := 184) d_Mo_readLine_172 (by decide) ?_
                        exact ow_vret d_Mo_readLine_184 rfl T
                    · replace T := T.2 c
                      refine ow_iconst (v := 1) (by decide) d_Mo_readLine_157 ?_
                      refine ow_goto (tgt := 162) d_Mo_readLine_158 (by decide) ?_
                      refine ow_callV (b := 70) (cq := 12) (As := [.ref (1000 + 6), .int 1]) (rest := []) (d2 := d) d_Mo_readLine_162 l_Mo_182 v_Mo_begins (show 70 < 85 by decide) rfl (by decide) rfl (Nat.le_of_ble_eq_true rfl) (Nat.le_refl _) ⟨Nat.le_refl _, Nat.le_refl _⟩ (ow_mono T ?_)
                      rintro r h' ⟨r104, I104, J104, R104, rfl, rfl, hR104, T⟩
                      show ow_AW ow_Y0 (ow_Z Q) M_Mo_readLine (d + 1) 0 0 165 [(0, .ref 70)] [.int r104] (85, I104, J104, R104) 0 0
                      refine ow_if_eq (tgt := 175) d_Mo_readLine_165 (by decide) (fun c => ?_) (fun c => ?_)
                      · replace T := T.1 c
                        refine ow_aload_n 0 rfl d_Mo_readLine_175 ?_
                        refine ow_iconst (v := 1) (by decide) d_Mo_readLine_176 ?_
                        refine ow_aload_n 0 rfl d_Mo_readLine_177 ?_
                        refine ow_gI 173 d_Mo_readLine_178 rfl rfl (by decide) rfl (Or.inl rfl) ?_
                        refine ow_callV (b := 70) (cq := 12) (As := [.int 1, .int (I104 70 4)]) (rest := []) (d2 := d) d_Mo_readLine_181 l_Mo_118 v_Mo_wrong (show 70 < 85 by decide) rfl (by decide) rfl (Nat.le_of_ble_eq_true rfl) (Nat.le_refl _) ⟨Nat.le_refl _, Nat.le_refl _⟩ (ow_mono T ?_)
                        rintro r h' ⟨I105, J105, R105, rfl, rfl, hR105, T⟩
                        show ow_AW ow_Y0 (ow_Z Q) M_Mo_readLine (d + 1) 0 0 184 [(0, .ref 70)] [] (85, I105, J105, R105) 0 0
                        exact ow_vret d_Mo_readLine_184 rfl T
                      · replace T := T.2 c
                        refine ow_aload_n 0 rfl d_Mo_readLine_168 ?_
                        refine ow_callV (b := 70) (cq := 12) (As := []) (rest := []) (d2 := d) d_Mo_readLine_169 l_Mo_201 v_Mo_signedLine (show 70 < 85 by decide) rfl (by decide) rfl (Nat.le_of_ble_eq_true rfl) (Nat.le_refl _) ⟨Nat.le_refl _, Nat.le_refl _⟩ (ow_mono T ?_)
                        rintro r h' ⟨I106, J106, R106, rfl, rfl, hR106, T⟩
                        show ow_AW ow_Y0 (ow_Z Q) M_Mo_readLine (d + 1) 0 0 172 [(0, .ref 70)] [] (85, I106, J106, R106) 0 0
                        refine ow_goto (tgt := 184) d_Mo_readLine_172 (by decide) ?_
                        exact ow_vret d_Mo_readLine_184 rfl T
                  · replace T := T.2 c
                    refine ow_aload_n 0 rfl d_Mo_readLine_137 ?_
                    refine ow_callV (b := 70) (cq := 12) (As := []) (rest := []) (d2 := d) d_Mo_readLine_138 l_Mo_198 v_Mo_veiledLine (show 70 < 85 by decide) rfl (by decide) rfl (Nat.le_of_ble_eq_true rfl) (Nat.le_refl _) ⟨Nat.le_refl _, Nat.le_refl _⟩ (ow_mono T ?_)
                    rintro r h' ⟨I107, J107, R107, rfl, rfl, hR107, T⟩
                    show ow_AW ow_Y0 (ow_Z Q) M_Mo_readLine (d + 1) 0 0 141 [(0, .ref 70)] [] (85, I107, J107, R107) 0 0
                    refine ow_goto (tgt := 184) d_Mo_readLine_141 (by decide) ?_
                    exact ow_vret d_Mo_readLine_184 rfl T
              · replace T := T.2 c
                refine ow_aload_n 0 rfl d_Mo_readLine_106 ?_
                refine ow_callV (b := 70) (cq := 12) (As := []) (rest := []) (d2 := d) d_Mo_readLine_107 l_Mo_195 v_Mo_estateLine (show 70 < 85 by decide) rfl (by decide) rfl (Nat.le_of_ble_eq_true rfl) (Nat.le_refl _) ⟨Nat.le_refl _, Nat.le_refl _⟩ (ow_mono T ?_)
                rintro r h' ⟨I108, J108, R108, rfl, rfl, hR108, T⟩
                show ow_AW ow_Y0 (ow_Z Q) M_Mo_readLine (d + 1) 0 0 110 [(0, .ref 70)] [] (85, I108, J108, R108) 0 0
                refine ow_goto (tgt := 184) d_Mo_readLine_110 (by decide) ?_
                exact ow_vret d_Mo_readLine_184 rfl T
            · replace T := T.2 c
              refine ow_iconst (v := 1) (by decide) d_Mo_readLine_95 ?_
              refine ow_goto (tgt := 100) d_Mo_readLine_96 (by decide) ?_
              refine ow_callV (b := 70) (cq := 12) (As := [.ref (1000 + 4), .int 1]) (rest := []) (d2 := d) d_Mo_readLine_100 l_Mo_182 v_Mo_begins (show 70 < 85 by decide) rfl (by decide) rfl (Nat.le_of_ble_eq_true rfl) (Nat.le_refl _) ⟨Nat.le_refl _, Nat.le_refl _⟩ (ow_mono T ?_)
              rintro r h' ⟨r109, I109, J109, R109, rfl, rfl, hR109, T⟩
              show ow_AW ow_Y0 (ow_Z Q) M_Mo_readLine (d + 1) 0 0 103 [(0, .ref 70)] [.int r109] (85, I109, J109, R109) 0 0
              refine ow_if_eq (tgt := 113) d_Mo_readLine_103 (by decide) (fun c => ?_) (fun c => ?_)
              · replace T := T.1 c
                refine ow_aload_n 0 rfl d_Mo_readLine_113 ?_
                refine ow_ldS (tx := "veiled") (i := 5) 26 d_Mo_readLine_114 rfl ?_
                refine ow_aload_n 0 rfl d_Mo_readLine_116 ?_
                refine ow_gR (a := 74) 185 d_Mo_readLine_117 rfl rfl (by decide) rfl ⟨rfl, hR109 70 16 (by decide)⟩ ?_
                refine ow_iconst (v := 4) (by decide) d_Mo_readLine_120 ?_
                refine ow_hiaload d_Mo_readLine_121 (by decide) rfl rfl (show vp_in (4 : Int32) 146 by unfold vp_in; decide) ?_
                show ow_AW ow_Y0 (ow_Z Q) M_Mo_readLine (d + 1) 0 0 122 [(0, .ref 70)] [.int (I109 74 4), .ref (1000 + 5), .ref 70] (85, I109, J109, R109) 0 0
                refine ow_iconst (v := 3) (by decide) d_Mo_readLine_122 ?_
                refine ow_icmp_ge (tgt := 130) d_Mo_readLine_123 (by decide) (fun c => ?_) (fun c => ?_)
                · replace T := T.1 c
                  refine ow_iconst (v := 0) (by decide) d_Mo_readLine_130 ?_
                  refine ow_callV (b := 70) (cq := 12) (As := [.ref (1000 + 5), .int 0]) (rest := []) (d2 := d) d_Mo_readLine_131 l_Mo_182 v_Mo_begins (show 70 < 85 by decide) rfl (by decide) rfl (Nat.le_of_ble_eq_true rfl) (Nat.le_refl _) ⟨Nat.le_refl _, Nat.le_refl _⟩ (ow_mono T ?_)
                  rintro r h' ⟨r110, I110, J110, R110, rfl, rfl, hR110, T⟩
                  show ow_AW ow_Y0 (ow_Z Q) M_Mo_readLine (d + 1) 0 0 134 [(0, .ref 70)] [.int r110] (85, I110, J110, R110) 0 0
                  refine ow_if_eq (tgt := 144) d_Mo_readLine_134 (by decide) (fun c => ?_) (fun c => ?_)
                  · replace T := T.1 c
                    refine ow_aload_n 0 rfl d_Mo_readLine_144 ?_
                    refine ow_ldS (tx := "signed") (i := 6) 27 d_Mo_readLine_145 rfl ?_
                    refine ow_aload_n 0 rfl d_Mo_readLine_147 ?_
                    refine ow_gR (a := 74) 185 d_Mo_readLine_148 rfl rfl (by decide) rfl ⟨rfl, hR110 70 16 (by decide)⟩ ?_
                    refine ow_iconst (v := 5) (by decide) d_Mo_readLine_151 ?_
                    refine ow_hiaload d_Mo_readLine_152 (by decide) rfl rfl (show vp_in (5 : Int32) 146 by unfold vp_in; decide) ?_
                    show ow_AW ow_Y0 (ow_Z Q) M_Mo_readLine (d + 1) 0 0 153 [(0, .ref 70)] [.int (I110 74 5), .ref (1000 + 6), .ref 70] (85, I110, J110, R110) 0 0
                    refine ow_iconst (v := 5) (by decide) d_Mo_readLine_153 ?_
                    refine ow_icmp_ge (tgt := 161) d_Mo_readLine_154 (by decide) (fun c => ?_) (fun c => ?_)
                    · replace T := T.1 c
                      refine ow_iconst (v := 0) (by decide) d_Mo_readLine_161 ?_
                      refine ow_callV (b := 70) (cq := 12) (As := [.ref (1000 + 6), .int 0]) (rest := []) (d2 := d) d_Mo_readLine_162 l_Mo_182 v_Mo_begins (show 70 < 85 by decide) rfl (by decide) rfl (Nat.le_of_ble_eq_true rfl) (Nat.le_refl _) ⟨Nat.le_refl _, Nat.le_refl _⟩ (ow_mono T ?_)
                      rintro r h' ⟨r111, I111, J111, R111, rfl, rfl, hR111, T⟩
                      show ow_AW ow_Y0 (ow_Z Q) M_Mo_readLine (d + 1) 0 0 165 [(0, .ref 70)] [.int r111] (85, I111, J111, R111) 0 0
                      refine ow_if_eq (tgt := 175) d_Mo_readLine_165 (by decide) (fun c => ?_) (fun c => ?_)
                      · replace T := T.1 c
                        refine ow_aload_n 0 rfl d_Mo_readLine_175 ?_
                        refine ow_iconst (v := 1) (by decide) d_Mo_readLine_176 ?_
                        refine ow_aload_n 0 rfl d_Mo_readLine_177 ?_
                        refine ow_gI 173 d_Mo_readLine_178 rfl rfl (by decide) rfl (Or.inl rfl) ?_
                        refine ow_callV (b := 70) (cq := 12) (As := [.int 1, .int (I111 70 4)]) (rest := []) (d2 := d) d_Mo_readLine_181 l_Mo_118 v_Mo_wrong (show 70 < 85 by decide) rfl (by decide) rfl (Nat.le_of_ble_eq_true rfl) (Nat.le_refl _) ⟨Nat.le_refl _, Nat.le_refl _⟩ (ow_mono T ?_)
                        rintro r h' ⟨I112, J112, R112, rfl, rfl, hR112, T⟩
                        show ow_AW ow_Y0 (ow_Z Q) M_Mo_readLine (d + 1) 0 0 184 [(0, .ref 70)] [] (85, I112, J112, R112) 0 0
                        exact ow_vret d_Mo_readLine_184 rfl T
                      · replace T := T.2 c
                        refine ow_aload_n 0 rfl d_Mo_readLine_168 ?_
                        refine ow_callV (b := 70) (cq := 12) (As := []) (rest := []) (d2 := d) d_Mo_readLine_169 l_Mo_201 v_Mo_signedLine (show 70 < 85 by decide) rfl (by decide) rfl (Nat.le_of_ble_eq_true rfl) (Nat.le_refl _) ⟨Nat.le_refl _, Nat.le_refl _⟩ (ow_mono T ?_)
                        rintro r h' ⟨I113, J113, R113, rfl, rfl, hR113, T⟩
                        show ow_AW ow_Y0 (ow_Z Q) M_Mo_readLine (d + 1) 0 0 172 [(0, .ref 70)] [] (85, I113, J113, R113) 0 0
                        refine ow_goto (tgt := 184) d_Mo_readLine_172 (by decide) ?_
                        exact ow_vret d_Mo_readLine_184 rfl T
                    · replace T := T.2 c
                      refine ow_iconst (v := 1) (by decide) d_Mo_readLine_157 ?_
                      refine ow_goto (tgt := 162) d_Mo_readLine_158 (by decide) ?_
                      refine ow_callV (b := 70) (cq := 12) (As := [.ref (1000 + 6), .int 1]) (rest := []) (d2 := d) d_Mo_readLine_162 l_Mo_182 v_Mo_begins (show 70 < 85 by decide) rfl (by decide) rfl (Nat.le_of_ble_eq_true rfl) (Nat.le_refl _) ⟨Nat.le_refl _, Nat.le_refl _⟩ (ow_mono T ?_)
                      rintro r h' ⟨r114, I114, J114, R114, rfl, rfl, hR114, T⟩
                      show ow_AW ow_Y0 (ow_Z Q) M_Mo_readLine (d + 1) 0 0 165 [(0, .ref 70)] [.int r114] (85, I114, J114, R114) 0 0
                      refine ow_if_eq (tgt := 175) d_Mo_readLine_165 (by decide) (fun c => ?_) (fun c => ?_)
                      · replace T := T.1 c
                        refine ow_aload_n 0 rfl d_Mo_readLine_175 ?_
                        refine ow_iconst (v := 1) (by decide) d_Mo_readLine_176 ?_
                        refine ow_aload_n 0 rfl d_Mo_readLine_177 ?_
                        refine ow_gI 173 d_Mo_readLine_178 rfl rfl (by decide) rfl (Or.inl rfl) ?_
                        refine ow_callV (b := 70) (cq := 12) (As := [.int 1, .int (I114 70 4)]) (rest := []) (d2 := d) d_Mo_readLine_181 l_Mo_118 v_Mo_wrong (show 70 < 85 by decide) rfl (by decide) rfl (Nat.le_of_ble_eq_true rfl) (Nat.le_refl _) ⟨Nat.le_refl _, Nat.le_refl _⟩ (ow_mono T ?_)
                        rintro r h' ⟨I115, J115, R115, rfl, rfl, hR115, T⟩
                        show ow_AW ow_Y0 (ow_Z Q) M_Mo_readLine (d + 1) 0 0 184 [(0, .ref 70)] [] (85, I115, J115, R115) 0 0
                        exact ow_vret d_Mo_readLine_184 rfl T
                      · replace T := T.2 c
                        refine ow_aload_n 0 rfl d_Mo_readLine_168 ?_
                        refine ow_callV (b := 70) (cq := 12) (As := []) (rest := []) (d2 := d) d_Mo_readLine_169 l_Mo_201 v_Mo_signedLine (show 70 < 85 by decide) rfl (by decide) rfl (Nat.le_of_ble_eq_true rfl) (Nat.le_refl _) ⟨Nat.le_refl _, Nat.le_refl _⟩ (ow_mono T ?_)
                        rintro r h' ⟨I116, J116, R116, rfl, rfl, hR116, T⟩
                        show ow_AW ow_Y0 (ow_Z Q) M_Mo_readLine (d + 1) 0 0 172 [(0, .ref 70)] [] (85, I116, J116, R116) 0 0
                        refine ow_goto (tgt := 184) d_Mo_readLine_172 (by decide) ?_
                        exact ow_vret d_Mo_readLine_184 rfl T
                  · replace T := T.2 c
                    refine ow_aload_n 0 rfl d_Mo_readLine_137 ?_
                    refine ow_callV (b := 70) (cq := 12) (As := []) (rest := []) (d2 := d) d_Mo_readLine_138 l_Mo_198 v_Mo_veiledLine (show 70 < 85 by decide) rfl (by decide) rfl (Nat.le_of_ble_eq_true rfl) (Nat.le_refl _) ⟨Nat.le_refl _, Nat.le_refl _⟩ (ow_mono T ?_)
                    rintro r h' ⟨I117, J117, R117, rfl, rfl, hR117, T⟩
                    show ow_AW ow_Y0 (ow_Z Q) M_Mo_readLine (d + 1) 0 0 141 [(0, .ref 70)] [] (85, I117, J117, R117) 0 0
                    refine ow_goto (tgt := 184) d_Mo_readLine_141 (by decide) ?_
                    exact ow_vret d_Mo_readLine_184 rfl T
                · replace T := T.2 c
                  refine ow_iconst (v := 1) (by decide) d_Mo_readLine_126 ?_
                  refine ow_goto (tgt := 131) d_Mo_readLine_127 (by decide) ?_
                  refine ow_callV (b := 70) (cq := 12) (As := [.ref (1000 + 5), .int 1]) (rest := []) (d2 := d) d_Mo_readLine_131 l_Mo_182 v_Mo_begins (show 70 < 85 by decide) rfl (by decide) rfl (Nat.le_of_ble_eq_true rfl) (Nat.le_refl _) ⟨Nat.le_refl _, Nat.le_refl _⟩ (ow_mono T ?_)
                  rintro r h' ⟨r118, I118, J118, R118, rfl, rfl, hR118, T⟩
                  show ow_AW ow_Y0 (ow_Z Q) M_Mo_readLine (d + 1) 0 0 134 [(0, .ref 70)] [.int r118] (85, I118, J118, R118) 0 0
                  refine ow_if_eq (tgt := 144) d_Mo_readLine_134 (by decide) (fun c => ?_) (fun c => ?_)
                  · replace T := T.1 c
                    refine ow_aload_n 0 rfl d_Mo_readLine_144 ?_
                    refine ow_ldS (tx := "signed") (i := 6) 27 d_Mo_readLine_145 rfl ?_
                    refine ow_aload_n 0 rfl d_Mo_readLine_147 ?_
                    refine ow_gR (a := 74) 185 d_Mo_readLine_148 rfl rfl (by decide) rfl ⟨rfl, hR118 70 16 (by decide)⟩ ?_
                    refine ow_iconst (v := 5) (by decide) d_Mo_readLine_151 ?_
                    refine ow_hiaload d_Mo_readLine_152 (by decide) rfl rfl (show vp_in (5 : Int32) 146 by unfold vp_in; decide) ?_
                    show ow_AW ow_Y0 (ow_Z Q) M_Mo_readLine (d + 1) 0 0 153 [(0, .ref 70)] [.int (I118 74 5), .ref (1000 + 6), .ref 70] (85, I118, J118, R118) 0 0
                    refine ow_iconst (v := 5) (by decide) d_Mo_readLine_153 ?_
                    refine ow_icmp_ge (tgt := 161) d_Mo_readLine_154 (by decide) (fun c => ?_) (fun c => ?_)
                    · replace T := T.1 c
                      refine ow_iconst (v := 0) (by decide) d_Mo_readLine_161 ?_
                      refine ow_callV (b := 70) (cq := 12) (As := [.ref (1000 + 6), .int 0]) (rest := []) (d2 := d) d_Mo_readLine_162 l_Mo_182 v_Mo_begins (show 70 < 85 by decide) rfl (by decide) rfl (Nat.le_of_ble_eq_true rfl) (Nat.le_refl _) ⟨Nat.le_refl _, Nat.le_refl _⟩ (ow_mono T ?_)
                      rintro r h' ⟨r119, I119, J119, R119, rfl, rfl, hR119, T⟩
                      show ow_AW ow_Y0 (ow_Z Q) M_Mo_readLine (d + 1) 0 0 165 [(0, .ref 70)] [.int r119] (85, I119, J119, R119) 0 0
                      refine ow_if_eq (tgt := 175) d_Mo_readLine_165 (by decide) (fun c => ?_) (fun c => ?_)
                      · replace T := T.1 c
                        refine ow_aload_n 0 rfl d_Mo_readLine_175 ?_
                        refine ow_iconst (v := 1) (by decide) d_Mo_readLine_176 ?_
                        refine ow_aload_n 0 rfl d_Mo_readLine_177 ?_
                        refine ow_gI 173 d_Mo_readLine_178 rfl rfl (by decide) rfl (Or.inl rfl) ?_
                        refine ow_callV (b := 70) (cq := 12) (As := [.int 1, .int (I119 70 4)]) (rest := []) (d2 := d) d_Mo_readLine_181 l_Mo_118 v_Mo_wrong (show 70 < 85 by decide) rfl (by decide) rfl (Nat.le_of_ble_eq_true rfl) (Nat.le_refl _) ⟨Nat.le_refl _, Nat.le_refl _⟩ (ow_mono T ?_)
                        rintro r h' ⟨I120, J120, R120, rfl, rfl, hR120, T⟩
                        show ow_AW ow_Y0 (ow_Z Q) M_Mo_readLine (d + 1) 0 0 184 [(0, .ref 70)] [] (85, I120, J120, R120) 0 0
                        exact ow_vret d_Mo_readLine_184 rfl T
                      · replace T := T.2 c
                        refine ow_aload_n 0 rfl d_Mo_readLine_168 ?_
                        refine ow_callV (b := 70) (cq := 12) (As := []) (rest := []) (d2 := d) d_Mo_readLine_169 l_Mo_201 v_Mo_signedLine (show 70 < 85 by decide) rfl (by decide) rfl (Nat.le_of_ble_eq_true rfl) (Nat.le_refl _) ⟨Nat.le_refl _, Nat.le_refl _⟩ (ow_mono T ?_)
                        rintro r h' ⟨I121, J121, R121, rfl, rfl, hR121, T⟩
                        show ow_AW ow_Y0 (ow_Z Q) M_Mo_readLine (d + 1) 0 0 172 [(0, .ref 70)] [] (85, I121, J121, R121) 0 0
                        refine ow_goto (tgt := 184) d_Mo_readLine_172 (by decide) ?_
                        exact ow_vret d_Mo_readLine_184 rfl T
                    · replace T := T.2 c
                      refine ow_iconst (v := 1) (by decide) d_Mo_readLine_157 ?_
                      refine ow_goto (tgt := 162) d_Mo_readLine_158 (by decide) ?_
                      refine ow_callV (b := 70) (cq := 12) (As := [.ref (1000 + 6), .int 1]) (rest := []) (d2 := d) d_Mo_readLine_162 l_Mo_182 v_Mo_begins (show 70 < 85 by decide) rfl (by decide) rfl (Nat.le_of_ble_eq_true rfl) (Nat.le_refl _) ⟨Nat.le_refl _, Nat.le_refl _⟩ (ow_mono T ?_)
                      rintro r h' ⟨r122, I122, J122, R122, rfl, rfl, hR122, T⟩
                      show ow_AW ow_Y0 (ow_Z Q) M_Mo_readLine (d + 1) 0 0 165 [(0, .ref 70)] [.int r122] (85, I122, J122, R122) 0 0
                      refine ow_if_eq (tgt := 175) d_Mo_readLine_165 (by decide) (fun c => ?_) (fun c => ?_)
                      · replace T := T.1 c
                        refine ow_aload_n 0 rfl d_Mo_readLine_175 ?_
                        refine ow_iconst (v := 1) (by decide) d_Mo_readLine_176 ?_
                        refine ow_aload_n 0 rfl d_Mo_readLine_177 ?_
                        refine ow_gI 173 d_Mo_readLine_178 rfl rfl (by decide) rfl (Or.inl rfl) ?_
                        refine ow_callV (b := 70) (cq := 12) (As := [.int 1, .int (I122 70 4)]) (rest := []) (d2 := d) d_Mo_readLine_181 l_Mo_118 v_Mo_wrong (show 70 < 85 by decide) rfl (by decide) rfl (Nat.le_of_ble_eq_true rfl) (Nat.le_refl _) ⟨Nat.le_refl _, Nat.le_refl _⟩ (ow_mono T ?_)
                        rintro r h' ⟨I123, J123, R123, rfl, rfl, hR123, T⟩
                        show ow_AW ow_Y0 (ow_Z Q) M_Mo_readLine (d + 1) 0 0 184 [(0, .ref 70)] [] (85, I123, J123, R123) 0 0
                        exact ow_vret d_Mo_readLine_184 rfl T
                      · replace T := T.2 c
                        refine ow_aload_n 0 rfl d_Mo_readLine_168 ?_
                        refine ow_callV (b := 70) (cq := 12) (As := []) (rest := []) (d2 := d) d_Mo_readLine_169 l_Mo_201 v_Mo_signedLine (show 70 < 85 by decide) rfl (by decide) rfl (Nat.le_of_ble_eq_true rfl) (Nat.le_refl _) ⟨Nat.le_refl _, Nat.le_refl _⟩ (ow_mono T ?_)
                        rintro r h' ⟨I124, J124, R124, rfl, rfl, hR124, T⟩
                        show ow_AW ow_Y0 (ow_Z Q) M_Mo_readLine (d + 1) 0 0 172 [(0, .ref 70)] [] (85, I124, J124, R124) 0 0
                        refine ow_goto (tgt := 184) d_Mo_readLine_172 (by decide) ?_
                        exact ow_vret d_Mo_readLine_184 rfl T
                  · replace T := T.2 c
                    refine ow_aload_n 0 rfl d_Mo_readLine_137 ?_
                    refine ow_callV (b := 70) (cq := 12) (As := []) (rest := []) (d2 := d) d_Mo_readLine_138 l_Mo_198 v_Mo_veiledLine (show 70 < 85 by decide) rfl (by decide) rfl (Nat.le_of_ble_eq_true rfl) (Nat.le_refl _) ⟨Nat.le_refl _, Nat.le_refl _⟩ (ow_mono T ?_)
                    rintro r h' ⟨I125, J125, R125, rfl, rfl, hR125, T⟩
                    show ow_AW ow_Y0 (ow_Z Q) M_Mo_readLine (d + 1) 0 0 141 [(0, .ref 70)] [] (85, I125, J125, R125) 0 0
                    refine ow_goto (tgt := 184) d_Mo_readLine_141 (by decide) ?_
                    exact ow_vret d_Mo_readLine_184 rfl T
              · replace T := T.2 c
                refine ow_aload_n 0 rfl d_Mo_readLine_106 ?_
                refine ow_callV (b := 70) (cq := 12) (As := []) (rest := []) (d2 := d) d_Mo_readLine_107 l_Mo_195 v_Mo_estateLine (show 70 < 85 by decide) rfl (by decide) rfl (Nat.le_of_ble_eq_true rfl) (Nat.le_refl _) ⟨Nat.le_refl _, Nat.le_refl _⟩ (ow_mono T ?_)
                rintro r h' ⟨I126, J126, R126, rfl, rfl, hR126, T⟩
                show ow_AW ow_Y0 (ow_Z Q) M_Mo_readLine (d + 1) 0 0 110 [(0, .ref 70)] [] (85, I126, J126, R126) 0 0
                refine ow_goto (tgt := 184) d_Mo_readLine_110 (by decide) ?_
                exact ow_vret d_Mo_readLine_184 rfl T
          · replace T := T.2 c
            refine ow_aload_n 0 rfl d_Mo_readLine_75 ?_
            refine ow_callV (b := 70) (cq := 12) (As := []) (rest := []) (d2 := d) d_Mo_readLine_76 l_Mo_192 v_Mo_hermitLine (show 70 < 85 by decide) rfl (by decide) rfl (Nat.le_of_ble_eq_true rfl) (Nat.le_refl _) ⟨Nat.le_refl _, Nat.le_refl _⟩ (ow_mono T ?_)
            rintro r h' ⟨I127, J127, R127, rfl, rfl, hR127, T⟩
            show ow_AW ow_Y0 (ow_Z Q) M_Mo_readLine (d + 1) 0 0 79 [(0, .ref 70)] [] (85, I127, J127, R127) 0 0
            refine ow_goto (tgt := 184) d_Mo_readLine_79 (by decide) ?_
            exact ow_vret d_Mo_readLine_184 rfl T
        · replace T := T.2 c
          refine ow_aload_n 0 rfl d_Mo_readLine_58 ?_
          refine ow_callV (b := 70) (cq := 12) (As := []) (rest := []) (d2 := d) d_Mo_readLine_59 l_Mo_189 v_Mo_sendsLine (show 70 < 85 by decide) rfl (by decide) rfl (Nat.le_of_ble_eq_true rfl) (Nat.le_refl _) ⟨Nat.le_refl _, Nat.le_refl _⟩ (ow_mono T ?_)
          rintro r h' ⟨I128, J128, R128, rfl, rfl, hR128, T⟩
          show ow_AW ow_Y0 (ow_Z Q) M_Mo_readLine (d + 1) 0 0 62 [(0, .ref 70)] [] (85, I128, J128, R128) 0 0
          refine ow_goto (tgt := 184) d_Mo_readLine_62 (by decide) ?_
          exact ow_vret d_Mo_readLine_184 rfl T
      · replace T := T.2 c
        refine ow_aload_n 0 rfl d_Mo_readLine_41 ?_
        refine ow_callV (b := 70) (cq := 12) (As := []) (rest := []) (d2 := d) d_Mo_readLine_42 l_Mo_186 v_Mo_follyLine (show 70 < 85 by decide) rfl (by decide) rfl (Nat.le_of_ble_eq_true rfl) (Nat.le_refl _) ⟨Nat.le_refl _, Nat.le_refl _⟩ (ow_mono T ?_)
        rintro r h' ⟨I129, J129, R129, rfl, rfl, hR129, T⟩
        show ow_AW ow_Y0 (ow_Z Q) M_Mo_readLine (d + 1) 0 0 45 [(0, .ref 70)] [] (85, I129, J129, R129) 0 0
        refine ow_goto (tgt := 184) d_Mo_readLine_45 (by decide) ?_
        exact ow_vret d_Mo_readLine_184 rfl T
    · replace T := T.2 c
      refine ow_iconst (v := 1) (by decide) d_Mo_readLine_30 ?_
      refine ow_goto (tgt := 35) d_Mo_readLine_31 (by decide) ?_
      refine ow_callV (b := 70) (cq := 12) (As := [.ref (1000 + 1), .int 1]) (rest := []) (d2 := d) d_Mo_readLine_35 l_Mo_182 v_Mo_begins (show 70 < 85 by decide) rfl (by decide) rfl (Nat.le_of_ble_eq_true rfl) (Nat.le_refl _) ⟨Nat.le_refl _, Nat.le_refl _⟩ (ow_mono T ?_)
      rintro r h' ⟨r130, I130, J130, R130, rfl, rfl, hR130, T⟩
      show ow_AW ow_Y0 (ow_Z Q) M_Mo_readLine (d + 1) 0 0 38 [(0, .ref 70)] [.int r130] (85, I130, J130, R130) 0 0
      refine ow_if_eq (tgt := 48) d_Mo_readLine_38 (by decide) (fun c => ?_) (fun c => ?_)
      · replace T := T.1 c
        refine ow_aload_n 0 rfl d_Mo_readLine_48 ?_
        refine ow_ldS (tx := "sends") (i := 2) 23 d_Mo_readLine_49 rfl ?_
        refine ow_iconst (v := 1) (by decide) d_Mo_readLine_51 ?_
        refine ow_callV (b := 70) (cq := 12) (As := [.ref (1000 + 2), .int 1]) (rest := []) (d2 := d) d_Mo_readLine_52 l_Mo_182 v_Mo_begins (show 70 < 85 by decide) rfl (by decide) rfl (Nat.le_of_ble_eq_true rfl) (Nat.le_refl _) ⟨Nat.le_refl _, Nat.le_refl _⟩ (ow_mono T ?_)
        rintro r h' ⟨r131, I131, J131, R131, rfl, rfl, hR131, T⟩
        show ow_AW ow_Y0 (ow_Z Q) M_Mo_readLine (d + 1) 0 0 55 [(0, .ref 70)] [.int r131] (85, I131, J131, R131) 0 0
        refine ow_if_eq (tgt := 65) d_Mo_readLine_55 (by decide) (fun c => ?_) (fun c => ?_)
        · replace T := T.1 c
          refine ow_aload_n 0 rfl d_Mo_readLine_65 ?_
          refine ow_ldS (tx := "hermit") (i := 3) 24 d_Mo_readLine_66 rfl ?_
          refine ow_iconst (v := 1) (by decide) d_Mo_readLine_68 ?_
          refine ow_callV (b := 70) (cq := 12) (As := [.ref (1000 + 3), .int 1]) (rest := []) (d2 := d) d_Mo_readLine_69 l_Mo_182 v_Mo_begins (show 70 < 85 by decide) rfl (by decide) rfl (Nat.le_of_ble_eq_true rfl) (Nat.le_refl _) ⟨Nat.le_refl _, Nat.le_refl _⟩ (ow_mono T ?_)
          rintro r h' ⟨r132, I132, J132, R132, rfl, rfl, hR132, T⟩
          show ow_AW ow_Y0 (ow_Z Q) M_Mo_readLine (d + 1) 0 0 72 [(0, .ref 70)] [.int r132] (85, I132, J132, R132) 0 0
          refine ow_if_eq (tgt := 82) d_Mo_readLine_72 (by decide) (fun c => ?_) (fun c => ?_)
          · replace T := T.1 c
            refine ow_aload_n 0 rfl d_Mo_readLine_82 ?_
            refine ow_ldS (tx := "estate") (i := 4) 25 d_Mo_readLine_83 rfl ?_
            refine ow_aload_n 0 rfl d_Mo_readLine_85 ?_
            refine ow_gR (a := 74) 185 d_Mo_readLine_86 rfl rfl (by decide) rfl ⟨rfl, hR132 70 16 (by decide)⟩ ?_
            refine ow_iconst (v := 3) (by decide) d_Mo_readLine_89 ?_
            refine ow_hiaload d_Mo_readLine_90 (by decide) rfl rfl (show vp_in (3 : Int32) 146 by unfold vp_in; decide) ?_
            show ow_AW ow_Y0 (ow_Z Q) M_Mo_readLine (d + 1) 0 0 91 [(0, .ref 70)] [.int (I132 74 3), .ref (1000 + 4), .ref 70] (85, I132, J132, R132) 0 0
            refine ow_iconst (v := 5) (by decide) d_Mo_readLine_91 ?_
            refine ow_icmp_ge (tgt := 99) d_Mo_readLine_92 (by decide) (fun c => ?_) (fun c => ?_)
            · replace T := T.1 c
              refine ow_iconst (v := 0) (by decide) d_Mo_readLine_99 ?_
              refine ow_callV (b := 70) (cq := 12) (As := [.ref (1000 + 4), .int 0]) (rest := []) (d2 := d) d_Mo_readLine_100 l_Mo_182 v_Mo_begins (show 70 < 85 by decide) rfl (by decide) rfl (Nat.le_of_ble_eq_true rfl) (Nat.le_refl _) ⟨Nat.le_refl _, Nat.le_refl _⟩ (ow_mono T ?_)
              rintro r h' ⟨r133, I133, J133, R133, rfl, rfl, hR133, T⟩
              show ow_AW ow_Y0 (ow_Z Q) M_Mo_readLine (d + 1) 0 0 103 [(0, .ref 70)] [.int r133] (85, I133, J133, R133) 0 0
              refine ow_if_eq (tgt := 113) d_Mo_readLine_103 (by decide) (fun c => ?_) (fun c => ?_)
              · replace T := T.1 c
                refine ow_aload_n 0 rfl d_Mo_readLine_113 ?_
                refine ow_ldS (tx := "veiled") (i := 5) 26 d_Mo_readLine_114 rfl ?_
                refine ow_aload_n 0 rfl d_Mo_readLine_116 ?_
                refine ow_gR (a := 74) 185 d_Mo_readLine_117 rfl rfl (by decide) rfl ⟨rfl, hR133 70 16 (by decide)⟩ ?_
                refine ow_iconst (v := 4) (by decide) d_Mo_readLine_120 ?_
                refine ow_hiaload d_Mo_readLine_121 (by decide) rfl rfl (show vp_in (4 : Int32) 146 by unfold vp_in; decide) ?_
                show ow_AW ow_Y0 (ow_Z Q) M_Mo_readLine (d + 1) 0 0 122 [(0, .ref 70)] [.int (I133 74 4), .ref (1000 + 5), .ref 70] (85, I133, J133, R133) 0 0
                refine ow_iconst (v := 3) (by decide) d_Mo_readLine_122 ?_
                refine ow_icmp_ge (tgt := 130) d_Mo_readLine_123 (by decide) (fun c => ?_) (fun c => ?_)
                · replace T := T.1 c
                  refine ow_iconst (v := 0) (by decide) d_Mo_readLine_130 ?_
                  refine ow_callV (b := 70) (cq := 12) (As := [.ref (1000 + 5), .int 0]) (rest := []) (d2 := d) d_Mo_readLine_131 l_Mo_182 v_Mo_begins (show 70 < 85 by decide) rfl (by decide) rfl (Nat.le_of_ble_eq_true rfl) (Nat.le_refl _) ⟨Nat.le_refl _, Nat.le_refl _⟩ (ow_mono T ?_)
                  rintro r h' ⟨r134, I134, J134, R134, rfl, rfl, hR134, T⟩
                  show ow_AW ow_Y0 (ow_Z Q) M_Mo_readLine (d + 1) 0 0 134 [(0, .ref 70)] [.int r134] (85, I134, J134, R134) 0 0
                  refine ow_if_eq (tgt := 144) d_Mo_readLine_134 (by decide) (fun c => ?_) (fun c => ?_)
                  · replace T := T.1 c
                    refine ow_aload_n 0 rfl d_Mo_readLine_144 ?_
                    refine ow_ldS (tx := "signed") (i := 6) 27 d_Mo_readLine_145 rfl ?_
                    refine ow_aload_n 0 rfl d_Mo_readLine_147 ?_
                    refine ow_gR (a := 74) 185 d_Mo_readLine_148 rfl rfl (by decide) rfl ⟨rfl, hR134 70 16 (by decide)⟩ ?_
                    refine ow_iconst (v := 5) (by decide) d_Mo_readLine_151 ?_
                    refine ow_hiaload d_Mo_readLine_152 (by decide) rfl rfl (show vp_in (5 : Int32) 146 by unfold vp_in; decide) ?_
                    show ow_AW ow_Y0 (ow_Z Q) M_Mo_readLine (d + 1) 0 0 153 [(0, .ref 70)] [.int (I134 74 5), .ref (1000 + 6), .ref 70] (85, I134, J134, R134) 0 0
                    refine ow_iconst (v := 5) (by decide) d_Mo_readLine_153 ?_
                    refine ow_icmp_ge (tgt := 161) d_Mo_readLine_154 (by decide) (fun c => ?_) (fun c => ?_)
                    · replace T := T.1 c
                      refine ow_iconst (v := 0) (by decide) d_Mo_readLine_161 ?_
                      refine ow_callV (b := 70) (cq := 12) (As := [.ref (1000 + 6), .int 0]) (rest := []) (d2 := d) d_Mo_readLine_162 l_Mo_182 v_Mo_begins (show 70 < 85 by decide) rfl (by decide) rfl (Nat.le_of_ble_eq_true rfl) (Nat.le_refl _) ⟨Nat.le_refl _, Nat.le_refl _⟩ (ow_mono T ?_)
                      rintro r h' ⟨r135, I135, J135, R135, rfl, rfl, hR135, T⟩
                      show ow_AW ow_Y0 (ow_Z Q) M_Mo_readLine (d + 1) 0 0 165 [(0, .ref 70)] [.int r135] (85, I135, J135, R135) 0 0
                      refine ow_if_eq (tgt := 175) d_Mo_readLine_165 (by decide) (fun c => ?_) (fun c => ?_)
                      · replace T := T.1 c
                        refine ow_aload_n 0 rfl d_Mo_readLine_175 ?_
                        refine ow_iconst (v := 1) (by decide) d_Mo_readLine_176 ?_
                        refine ow_aload_n 0 rfl d_Mo_readLine_177 ?_
                        refine ow_gI 173 d_Mo_readLine_178 rfl rfl (by decide) rfl (Or.inl rfl) ?_
                        refine ow_callV (b := 70) (cq := 12) (As := [.int 1, .int (I135 70 4)]) (rest := []) (d2 := d) d_Mo_readLine_181 l_Mo_118 v_Mo_wrong (show 70 < 85 by decide) rfl (by decide) rfl (Nat.le_of_ble_eq_true rfl) (Nat.le_refl _) ⟨Nat.le_refl _, Nat.le_refl _⟩ (ow_mono T ?_)
                        rintro r h' ⟨I136, J136, R136, rfl, rfl, hR136, T⟩
                        show ow_AW ow_Y0 (ow_Z Q) M_Mo_readLine (d + 1) 0 0 184 [(0, .ref 70)] [] (85, I136, J136, R136) 0 0
                        exact ow_vret d_Mo_readLine_184 rfl T
                      · replace T := T.2 c
                        refine ow_aload_n 0 rfl d_Mo_readLine_168 ?_
                        refine ow_callV (b := 70) (cq := 12) (As := []) (rest := []) (d2 := d) d_Mo_readLine_169 l_Mo_201 v_Mo_signedLine (show 70 < 85 by decide) rfl (by decide) rfl (Nat.le_of_ble_eq_true rfl) (Nat.le_refl _) ⟨Nat.le_refl _, Nat.le_refl _⟩ (ow_mono T ?_)
                        rintro r h' ⟨I137, J137, R137, rfl, rfl, hR137, T⟩
                        show ow_AW ow_Y0 (ow_Z Q) M_Mo_readLine (d + 1) 0 0 172 [(0, .ref 70)] [] (85, I137, J137, R137) 0 0
                        refine ow_goto (tgt := 184) d_Mo_readLine_172 (by decide) ?_
                        exact ow_vret d_Mo_readLine_184 rfl T
                    · replace T := T.2 c
                      refine ow_iconst (v := 1) (by decide) d_Mo_readLine_157 ?_
                      refine ow_goto (tgt := 162) d_Mo_readLine_158 (by decide) ?_
                      refine ow_callV (b := 70) (cq := 12) (As := [.ref (1000 + 6), .int 1]) (rest := []) (d2 := d) d_Mo_readLine_162 l_Mo_182 v_Mo_begins (show 70 < 85 by decide) rfl (by decide) rfl (Nat.le_of_ble_eq_true rfl) (Nat.le_refl _) ⟨Nat.le_refl _, Nat.le_refl _⟩ (ow_mono T ?_)
                      rintro r h' ⟨r138, I138, J138, R138, rfl, rfl, hR138, T⟩
                      show ow_AW ow_Y0 (ow_Z Q) M_Mo_readLine (d + 1) 0 0 165 [(0, .ref 70)] [.int r138] (85, I138, J138, R138) 0 0
                      refine ow_if_eq (tgt := 175) d_Mo_readLine_165 (by decide) (fun c => ?_) (fun c => ?_)
                      · replace T := T.1 c
                        refine ow_aload_n 0 rfl d_Mo_readLine_175 ?_
                        refine ow_iconst (v := 1) (by decide) d_Mo_readLine_176 ?_
                        refine ow_aload_n 0 rfl d_Mo_readLine_177 ?_
                        refine ow_gI 173 d_Mo_readLine_178 rfl rfl (by decide) rfl (Or.inl rfl) ?_
                        refine ow_callV (b := 70) (cq := 12) (As := [.int 1, .int (I138 70 4)]) (rest := []) (d2 := d) d_Mo_readLine_181 l_Mo_118 v_Mo_wrong (show 70 < 85 by decide) rfl (by decide) rfl (Nat.le_of_ble_eq_true rfl) (Nat.le_refl _) ⟨Nat.le_refl _, Nat.le_refl _⟩ (ow_mono T ?_)
                        rintro r h' ⟨I139, J139, R139, rfl, rfl, hR139, T⟩
                        show ow_AW ow_Y0 (ow_Z Q) M_Mo_readLine (d + 1) 0 0 184 [(0, .ref 70)] [] (85, I139, J139, R139) 0 0
                        exact ow_vret d_Mo_readLine_184 rfl T
                      · replace T := T.2 c
                        refine ow_aload_n 0 rfl d_Mo_readLine_168 ?_
                        refine ow_callV (b := 70) (cq := 12) (As := []) (rest := []) (d2 := d) d_Mo_readLine_169 l_Mo_201 v_Mo_signedLine (show 70 < 85 by decide) rfl (by decide) rfl (Nat.le_of_ble_eq_true rfl) (Nat.le_refl _) ⟨Nat.le_refl _, Nat.le_refl _⟩ (ow_mono T ?_)
                        rintro r h' ⟨I140, J140, R140, rfl, rfl, hR140, T⟩
                        show ow_AW ow_Y0 (ow_Z Q) M_Mo_readLine (d + 1) 0 0 172 [(0, .ref 70)] [] (85, I140, J140, R140) 0 0
                        refine ow_goto (tgt := 184) d_Mo_readLine_172 (by decide) ?_
                        exact ow_vret d_Mo_readLine_184 rfl T
                  · replace T := T.2 c
                    refine ow_aload_n 0 rfl d_Mo_readLine_137 ?_
                    refine ow_callV (b := 70) (cq := 12) (As := []) (rest := []) (d2 := d) d_Mo_readLine_138 l_Mo_198 v_Mo_veiledLine (show 70 < 85 by decide) rfl (by decide) rfl (Nat.le_of_ble_eq_true rfl) (Nat.le_refl _) ⟨Nat.le_refl _, Nat.le_refl _⟩ (ow_mono T ?_)
                    rintro r h' ⟨I141, J141, R141, rfl, rfl, hR141, T⟩
                    show ow_AW ow_Y0 (ow_Z Q) M_Mo_readLine (d + 1) 0 0 141 [(0, .ref 70)] [] (85, I141, J141, R141) 0 0
                    refine ow_goto (tgt := 184) d_Mo_readLine_141 (by decide) ?_
                    exact ow_vret d_Mo_readLine_184 rfl T
                · replace T := T.2 c
                  refine ow_iconst (v := 1) (by decide) d_Mo_readLine_126 ?_
                  refine ow_goto (tgt := 131) d_Mo_readLine_127 (by decide) ?_
                  refine ow_callV (b := 70) (cq := 12) (As := [.ref (1000 + 5), .int 1]) (rest := []) (d2 := d) d_Mo_readLine_131 l_Mo_182 v_Mo_begins (show 70 < 85 by decide) rfl (by decide) rfl (Nat.le_of_ble_eq_true rfl) (Nat.le_refl _) ⟨Nat.le_refl _, Nat.le_refl _⟩ (ow_mono T ?_)
                  rintro r h' ⟨r142, I142, J142, R142, rfl, rfl, hR142, T⟩
                  show ow_AW ow_Y0 (ow_Z Q) M_Mo_readLine (d + 1) 0 0 134 [(0, .ref 70)] [.int r142] (85, I142, J142, R142) 0 0
                  refine ow_if_eq (tgt := 144) d_Mo_readLine_134 (by decide) (fun c => ?_) (fun c => ?_)
                  · replace T := T.1 c
                    refine ow_aload_n 0 rfl d_Mo_readLine_144 ?_
                    refine ow_ldS (tx := "signed") (i := 6) 27 d_Mo_readLine_145 rfl ?_
                    refine ow_aload_n 0 rfl d_Mo_readLine_147 ?_
                    refine ow_gR (a := 74) 185 d_Mo_readLine_148 rfl rfl (by decide) rfl ⟨rfl, hR142 70 16 (by decide)⟩ ?_
                    refine ow_iconst (v := 5) (by decide) d_Mo_readLine_151 ?_
                    refine ow_hiaload d_Mo_readLine_152 (by decide) rfl rfl (show vp_in (5 : Int32) 146 by unfold vp_in; decide) ?_
                    show ow_AW ow_Y0 (ow_Z Q) M_Mo_readLine (d + 1) 0 0 153 [(0, .ref 70)] [.int (I142 74 5), .ref (1000 + 6), .ref 70] (85, I142, J142, R142) 0 0
                    refine ow_iconst (v := 5) (by decide) d_Mo_readLine_153 ?_
                    refine ow_icmp_ge (tgt := 161) d_Mo_readLine_154 (by decide) (fun c => ?_) (fun c => ?_)
                    · replace T := T.1 c
                      refine ow_iconst (v := 0) (by decide) d_Mo_readLine_161 ?_
                      refine ow_callV (b := 70) (cq := 12) (As := [.ref (1000 + 6), .int 0]) (rest := []) (d2 := d) d_Mo_readLine_162 l_Mo_182 v_Mo_begins (show 70 < 85 by decide) rfl (by decide) rfl (Nat.le_of_ble_eq_true rfl) (Nat.le_refl _) ⟨Nat.le_refl _, Nat.le_refl _⟩ (ow_mono T ?_)
                      rintro r h' ⟨r143, I143, J143, R143, rfl, rfl, hR143, T⟩
                      show ow_AW ow_Y0 (ow_Z Q) M_Mo_readLine (d + 1) 0 0 165 [(0, .ref 70)] [.int r143] (85, I143, J143, R143) 0 0
                      refine ow_if_eq (tgt := 175) d_Mo_readLine_165 (by decide) (fun c => ?_) (fun c => ?_)
                      · replace T := T.1 c
                        refine ow_aload_n 0 rfl d_Mo_readLine_175 ?_
                        refine ow_iconst (v := 1) (by decide) d_Mo_readLine_176 ?_
                        refine ow_aload_n 0 rfl d_Mo_readLine_177 ?_
                        refine ow_gI 173 d_Mo_readLine_178 rfl rfl (by decide) rfl (Or.inl rfl) ?_
                        refine ow_callV (b := 70) (cq := 12) (As := [.int 1, .int (I143 70 4)]) (rest := []) (d2 := d) d_Mo_readLine_181 l_Mo_118 v_Mo_wrong (show 70 < 85 by decide) rfl (by decide) rfl (Nat.le_of_ble_eq_true rfl) (Nat.le_refl _) ⟨Nat.le_refl _, Nat.le_refl _⟩ (ow_mono T ?_)
                        rintro r h' ⟨I144, J144, R144, rfl, rfl, hR144, T⟩
                        show ow_AW ow_Y0 (ow_Z Q) M_Mo_readLine (d + 1) 0 0 184 [(0, .ref 70)] [] (85, I144, J144, R144) 0 0
                        exact ow_vret d_Mo_readLine_184 rfl T
                      · replace T := T.2 c
                        refine ow_aload_n 0 rfl d_Mo_readLine_168 ?_
                        refine ow_callV (b := 70) (cq := 12) (As := []) (rest := []) (d2 := d) d_Mo_readLine_169 l_Mo_201 v_Mo_signedLine (show 70 < 85 by decide) rfl (by decide) rfl (Nat.le_of_ble_eq_true rfl) (Nat.le_refl _) ⟨Nat.le_refl _, Nat.le_refl _⟩ (ow_mono T ?_)
                        rintro r h' ⟨I145, J145, R145, rfl, rfl, hR145, T⟩
                        show ow_AW ow_Y0 (ow_Z Q) M_Mo_readLine (d + 1) 0 0 172 [(0, .ref 70)] [] (85, I145, J145, R145) 0 0
                        refine ow_goto (tgt := 184) d_Mo_readLine_172 (by decide) ?_
                        exact ow_vret d_Mo_readLine_184 rfl T
                    · replace T := T.2 c
                      refine ow_iconst (v := 1) (by decide) d_Mo_readLine_157 ?_
                      refine ow_goto (tgt := 162) d_Mo_readLine_158 (by decide) ?_
                      refine ow_callV (b := 70) (cq := 12) (As := [.ref (1000 + 6), .int 1]) (rest := []) (d2 := d) d_Mo_readLine_162 l_Mo_182 v_Mo_begins (show 70 < 85 by decide) rfl (by decide) rfl (Nat.le_of_ble_eq_true rfl) (Nat.le_refl _) ⟨Nat.le_refl _, Nat.le_refl _⟩ (ow_mono T ?_)
                      rintro r h' ⟨r146, I146, J146, R146, rfl, rfl, hR146, T⟩
                      show ow_AW ow_Y0 (ow_Z Q) M_Mo_readLine (d + 1) 0 0 165 [(0, .ref 70)] [.int r146] (85, I146, J146, R146) 0 0
                      refine ow_if_eq (tgt := 175) d_Mo_readLine_165 (by decide) (fun c => ?_) (fun c => ?_)
                      · replace T := T.1 c
                        refine ow_aload_n 0 rfl d_Mo_readLine_175 ?_
                        refine ow_iconst (v := 1) (by decide) d_Mo_readLine_176 ?_
                        refine ow_aload_n 0 rfl d_Mo_readLine_177 ?_
                        refine ow_gI 173 d_Mo_readLine_178 rfl rfl (by decide) rfl (Or.inl rfl) ?_
                        refine ow_callV (b := 70) (cq := 12) (As := [.int 1, .int (I146 70 4)]) (rest := []) (d2 := d) d_Mo_readLine_181 l_Mo_118 v_Mo_wrong (show 70 < 85 by decide) rfl (by decide) rfl (Nat.le_of_ble_eq_true rfl) (Nat.le_refl _) ⟨Nat.le_refl _, Nat.le_refl _⟩ (ow_mono T ?_)
                        rintro r h' ⟨I147, J147, R147, rfl, rfl, hR147, T⟩
                        show ow_AW ow_Y0 (ow_Z Q) M_Mo_readLine (d + 1) 0 0 184 [(0, .ref 70)] [] (85, I147, J147, R147) 0 0
                        exact ow_vret d_Mo_readLine_184 rfl T
                      · replace T := T.2 c
                        refine ow_aload_n 0 rfl d_Mo_readLine_168 ?_
                        refine ow_callV (b := 70) (cq := 12) (As := []) (rest := []) (d2 := d) d_Mo_readLine_169 l_Mo_201 v_Mo_signedLine (show 70 < 85 by decide) rfl (by decide) rfl (Nat.le_of_ble_eq_true rfl) (Nat.le_refl _) ⟨Nat.le_refl _, Nat.le_refl _⟩ (ow_mono T ?_)
                        rintro r h' ⟨I148, J148, R148, rfl, rfl, hR148, T⟩
                        show ow_AW ow_Y0 (ow_Z Q) M_Mo_readLine (d + 1) 0 0 172 [(0, .ref 70)] [] (85, I148, J148, R148) 0 0
                        refine ow_goto (tgt := 184) d_Mo_readLine_172 (by decide) ?_
                        exact ow_vret d_Mo_readLine_184 rfl T
                  · replace T := T.2 c
                    refine ow_aload_n 0 rfl d_Mo_readLine_137 ?_
                    refine ow_callV (b := 70) (cq := 12) (As := []) (rest := []) (d2 := d) d_Mo_readLine_138 l_Mo_198 v_Mo_veiledLine (show 70 < 85 by decide) rfl (by decide) rfl (Nat.le_of_ble_eq_true rfl) (Nat.le_refl _) ⟨Nat.le_refl _, Nat.le_refl _⟩ (ow_mono T ?_)
                    rintro r h' ⟨I149, J149, R149, rfl, rfl, hR149, T⟩
                    show ow_AW ow_Y0 (ow_Z Q) M_Mo_readLine (d + 1) 0 0 141 [(0, .ref 70)] [] (85, I149, J149, R149) 0 0
                    refine ow_goto (tgt := 184) d_Mo_readLine_141 (by decide) ?_
                    exact ow_vret d_Mo_readLine_184 rfl T
              · replace T := T.2 c
                refine ow_aload_n 0 rfl d_Mo_readLine_106 ?_
                refine ow_callV (b := 70) (cq := 12) (As := []) (rest := []) (d2 := d) d_Mo_readLine_107 l_Mo_195 v_Mo_estateLine (show 70 < 85 by decide) rfl (by decide) rfl (Nat.le_of_ble_eq_true rfl) (Nat.le_refl _) ⟨Nat.le_refl _, Nat.le_refl _⟩ (ow_mono T ?_)
                rintro r h' ⟨I150, J150, R150, rfl, rfl, hR150, T⟩
                show ow_AW ow_Y0 (ow_Z Q) M_Mo_readLine (d + 1) 0 0 110 [(0, .ref 70)] [] (85, I150, J150, R150) 0 0
                refine ow_goto (tgt := 184) d_Mo_readLine_110 (by decide) ?_
                exact ow_vret d_Mo_readLine_184 rfl T
            · replace T := T.2 c
              refine ow_iconst (v := 1) (by decide) d_Mo_readLine_95 ?_
              refine ow_goto (tgt := 100) d_Mo_readLine_96 (by decide) ?_
              refine ow_callV (b := 70) (cq := 12) (As := [.ref (1000 + 4), .int 1]) (rest := []) (d2 := d) d_Mo_readLine_100 l_Mo_182 v_Mo_begins (show 70 < 85 by decide) rfl (by decide) rfl (Nat.le_of_ble_eq_true rfl) (Nat.le_refl _) ⟨Nat.le_refl _, Nat.le_refl _⟩ (ow_mono T ?_)
              rintro r h' ⟨r151, I151, J151, R151, rfl, rfl, hR151, T⟩
              show ow_AW ow_Y0 (ow_Z Q) M_Mo_readLine (d + 1) 0 0 103 [(0, .ref 70)] [.int r151] (85, I151, J151, R151) 0 0
              refine ow_if_eq (tgt := 113) d_Mo_readLine_103 (by decide) (fun c => ?_) (fun c => ?_)
              · replace T := T.1 c
                refine ow_aload_n 0 rfl d_Mo_readLine_113 ?_
                refine ow_ldS (tx := "veiled") (i := 5) 26 d_Mo_readLine_114 rfl ?_
                refine ow_aload_n 0 rfl d_Mo_readLine_116 ?_
                refine ow_gR (a := 74) 185 d_Mo_readLine_117 rfl rfl (by decide) rfl ⟨rfl, hR151 70 16 (by decide)⟩ ?_
                refine ow_iconst (v := 4) (by decide) d_Mo_readLine_120 ?_
                refine ow_hiaload d_Mo_readLine_121 (by decide) rfl rfl (show vp_in (4 : Int32) 146 by unfold vp_in; decide) ?_
                show ow_AW ow_Y0 (ow_Z Q) M_Mo_readLine (d + 1) 0 0 122 [(0, .ref 70)] [.int (I151 74 4), .ref (1000 + 5), .ref 70] (85, I151, J151, R151) 0 0
                refine ow_iconst (v := 3) (by decide) d_Mo_readLine_122 ?_
                refine ow_icmp_ge (tgt := 130) d_Mo_readLine_123 (by decide) (fun c => ?_) (fun c => ?_)
                · replace T := T.1 c
                  refine ow_iconst (v := 0) (by decide) d_Mo_readLine_130 ?_
                  refine ow_callV (b := 70) (cq := 12) (As := [.ref (1000 + 5), .int 0]) (rest := []) (d2 := d) d_Mo_readLine_131 l_Mo_182 v_Mo_begins (show 70 < 85 by decide) rfl (by decide) rfl (Nat.le_of_ble_eq_true rfl) (Nat.le_refl _) ⟨Nat.le_refl _, Nat.le_refl _⟩ (ow_mono T ?_)
                  rintro r h' ⟨r152, I152, J152, R152, rfl, rfl, hR152, T⟩
                  show ow_AW ow_Y0 (ow_Z Q) M_Mo_readLine (d + 1) 0 0 134 [(0, .ref 70)] [.int r152] (85, I152, J152, R152) 0 0
                  refine ow_if_eq (tgt := 144) d_Mo_readLine_134 (by decide) (fun c => ?_) (fun c => ?_)
                  · replace T := T.1 c
                    refine ow_aload_n 0 rfl d_Mo_readLine_144 ?_
                    refine ow_ldS (tx := "signed") (i := 6) 27 d_Mo_readLine_145 rfl ?_
                    refine ow_aload_n 0 rfl d_Mo_readLine_147 ?_
                    refine ow_gR (a := 74) 185 d_Mo_readLine_148 rfl rfl (by decide) rfl ⟨rfl, hR152 70 16 (by decide)⟩ ?_
                    refine ow_iconst (v := 5) (by decide) d_Mo_readLine_151 ?_
                    refine ow_hiaload d_Mo_readLine_152 (by decide) rfl rfl (show vp_in (5 : Int32) 146 by unfold vp_in; decide) ?_
                    show ow_AW ow_Y0 (ow_Z Q) M_Mo_readLine (d + 1) 0 0 153 [(0, .ref 70)] [.int (I152 74 5), .ref (1000 + 6), .ref 70] (85, I152, J152, R152) 0 0
                    refine ow_iconst (v := 5) (by decide) d_Mo_readLine_153 ?_
                    refine ow_icmp_ge (tgt := 161) d_Mo_readLine_154 (by decide) (fun c => ?_) (fun c => ?_)
                    · replace T := T.1 c
                      refine ow_iconst (v := 0) (by decide) d_Mo_readLine_161 ?_
                      refine ow_callV (b := 70) (cq := 12) (As := [.ref (1000 + 6), .int 0]) (rest := []) (d2 := d) d_Mo_readLine_162 l_Mo_182 v_Mo_begins (show 70 < 85 by decide) rfl (by decide) rfl (Nat.le_of_ble_eq_true rfl) (Nat.le_refl _) ⟨Nat.le_refl _, Nat.le_refl _⟩ (ow_mono T ?_)
                      rintro r h' ⟨r153, I153, J153, R153, rfl, rfl, hR153, T⟩
                      show ow_AW ow_Y0 (ow_Z Q) M_Mo_readLine (d + 1) 0 0 165 [(0, .ref 70)] [.int r153] (85, I153, J153, R153) 0 0
                      refine ow_if_eq (tgt := 175) d_Mo_readLine_165 (by decide) (fun c => ?_) (fun c => ?_)
                      · replace T := T.1 c
                        refine ow_aload_n 0 rfl d_Mo_readLine_175 ?_
                        refine ow_iconst (v := 1) (by decide) d_Mo_readLine_176 ?_
                        refine ow_aload_n 0 rfl d_Mo_readLine_177 ?_
                        refine ow_gI 173 d_Mo_readLine_178 rfl rfl (by decide) rfl (Or.inl rfl) ?_
                        refine ow_callV (b := 70) (cq := 12) (As := [.int 1, .int (I153 70 4)]) (rest := []) (d2 := d) d_Mo_readLine_181 l_Mo_118 v_Mo_wrong (show 70 < 85 by decide) rfl (by decide) rfl (Nat.le_of_ble_eq_true rfl) (Nat.le_refl _) ⟨Nat.le_refl _, Nat.le_refl _⟩ (ow_mono T ?_)
                        rintro r h' ⟨I154, J154, R154, rfl, rfl, hR154, T⟩
                        show ow_AW ow_Y0 (ow_Z Q) M_Mo_readLine (d + 1) 0 0 184 [(0, .ref 70)] [] (85, I154, J154, R154) 0 0
                        exact ow_vret d_Mo_readLine_184 rfl T
                      · replace T := T.2 c
                        refine ow_aload_n 0 rfl d_Mo_readLine_168 ?_
                        refine ow_callV (b := 70) (cq := 12) (As := []) (rest := []) (d2 := d) d_Mo_readLine_169 l_Mo_201 v_Mo_signedLine (show 70 < 85 by decide) rfl (by decide) rfl (Nat.le_of_ble_eq_true rfl) (Nat.le_refl _) ⟨Nat.le_refl _, Nat.le_refl _⟩ (ow_mono T ?_)
                        rintro r h' ⟨I155, J155, R155, rfl, rfl, hR155, T⟩
                        show ow_AW ow_Y0 (ow_Z Q) M_Mo_readLine (d + 1) 0 0 172 [(0, .ref 70)] [] (85, I155, J155, R155) 0 0
                        refine ow_goto (tgt := 184) d_Mo_readLine_172 (by decide) ?_
                        exact ow_vret d_Mo_readLine_184 rfl T
                    · replace T := T.2 c
                      refine ow_iconst (v := 1) (by decide) d_Mo_readLine_157 ?_
                      refine ow_goto (tgt := 162) d_Mo_readLine_158 (by decide) ?_
                      refine ow_callV (b := 70) (cq := 12) (As := [.ref (1000 + 6), .int 1]) (rest := []) (d2 := d) d_Mo_readLine_162 l_Mo_182 v_Mo_begins (show 70 < 85 by decide) rfl (by decide) rfl (Nat.le_of_ble_eq_true rfl) (Nat.le_refl _) ⟨Nat.le_refl _, Nat.le_refl _⟩ (ow_mono T ?_)
                      rintro r h' ⟨r156, I156, J156, R156, rfl, rfl, hR156, T⟩
                      show ow_AW ow_Y0 (ow_Z Q) M_Mo_readLine (d + 1) 0 0 165 [(0, .ref 70)] [.int r156] (85, I156, J156, R156) 0 0
                      refine ow_if_eq (tgt := 175) d_Mo_readLine_165 (by decide) (fun c => ?_) (fun c => ?_)
                      · replace T := T.1 c
                        refine ow_aload_n 0 rfl d_Mo_readLine_175 ?_
                        refine ow_iconst (v := 1) (by decide) d_Mo_readLine_176 ?_
                        refine ow_aload_n 0 rfl d_Mo_readLine_177 ?_
                        refine ow_gI 173 d_Mo_readLine_178 rfl rfl (by decide) rfl (Or.inl rfl) ?_
                        refine ow_callV (b := 70) (cq := 12) (As := [.int 1, .int (I156 70 4)]) (rest := []) (d2 := d) d_Mo_readLine_181 l_Mo_118 v_Mo_wrong (show 70 < 85 by decide) rfl (by decide) rfl (Nat.le_of_ble_eq_true rfl) (Nat.le_refl _) ⟨Nat.le_refl _, Nat.le_refl _⟩ (ow_mono T ?_)
                        rintro r h' ⟨I157, J157, R157, rfl, rfl, hR157, T⟩
                        show ow_AW ow_Y0 (ow_Z Q) M_Mo_readLine (d + 1) 0 0 184 [(0, .ref 70)] [] (85, I157, J157, R157) 0 0
                        exact ow_vret d_Mo_readLine_184 rfl T
                      · replace T := T.2 c
                        refine ow_aload_n 0 rfl d_Mo_readLine_168 ?_
                        refine ow_callV (b := 70) (cq := 12) (As := []) (rest := []) (d2 := d) d_Mo_readLine_169 l_Mo_201 v_Mo_signedLine (show 70 < 85 by decide) rfl (by decide) rfl (Nat.le_of_ble_eq_true rfl) (Nat.le_refl _) ⟨Nat.le_refl _, Nat.le_refl _⟩ (ow_mono T ?_)
                        rintro r h' ⟨I158, J158, R158, rfl, rfl, hR158, T⟩
                        show ow_AW ow_Y0 (ow_Z Q) M_Mo_readLine (d + 1) 0 0 172 [(0, .ref 70)] [] (85, I158, J158, R158) 0 0
                        refine ow_goto (tgt := 184) d_Mo_readLine_172 (by decide) ?_
                        exact ow_vret d_Mo_readLine_184 rfl T
                  · replace T := T.2 c
                    refine ow_aload_n 0 rfl d_Mo_readLine_137 ?_
                    refine ow_callV (b := 70) (cq := 12) (As := []) (rest := []) (d2 := d) d_Mo_readLine_138 l_Mo_198 v_Mo_veiledLine (show 70 < 85 by decide) rfl (by decide) rfl (Nat.le_of_ble_eq_true rfl) (Nat.le_refl _) ⟨Nat.le_refl _, Nat.le_refl _⟩ (ow_mono T ?_)
                    rintro r h' ⟨I159, J159, R159, rfl, rfl, hR159, T⟩
                    show ow_AW ow_Y0 (ow_Z Q) M_Mo_readLine (d + 1) 0 0 141 [(0, .ref 70)] [] (85, I159, J159, R159) 0 0
                    refine ow_goto (tgt := 184) d_Mo_readLine_141 (by decide) ?_
                    exact ow_vret d_Mo_readLine_184 rfl T
                · replace T := T.2 c
                  refine ow_iconst (v := 1) (by decide) d_Mo_readLine_126 ?_
                  refine ow_goto (tgt := 131) d_Mo_readLine_127 (by decide) ?_
                  refine ow_callV (b := 70) (cq := 12) (As := [.ref (1000 + 5), .int 1]) (rest := []) (d2 := d) d_Mo_readLine_131 l_Mo_182 v_Mo_begins (show 70 < 85 by decide) rfl (by decide) rfl (Nat.le_of_ble_eq_true rfl) (Nat.le_refl _) ⟨Nat.le_refl _, Nat.le_refl _⟩ (ow_mono T ?_)
                  rintro r h' ⟨r160, I160, J160, R160, rfl, rfl, hR160, T⟩
                  show ow_AW ow_Y0 (ow_Z Q) M_Mo_readLine (d + 1) 0 0 134 [(0, .ref 70)] [.int r160] (85, I160, J160, R160) 0 0
                  refine ow_if_eq (tgt := 144) d_Mo_readLine_134 (by decide) (fun c => ?_) (fun c => ?_)
                  · replace T := T.1 c
                    refine ow_aload_n 0 rfl d_Mo_readLine_144 ?_
                    refine ow_ldS (tx := "signed") (i := 6) 27 d_Mo_readLine_145 rfl ?_
                    refine ow_aload_n 0 rfl d_Mo_readLine_147 ?_
                    refine ow_gR (a := 74) 185 d_Mo_readLine_148 rfl rfl (by decide) rfl ⟨rfl, hR160 70 16 (by decide)⟩ ?_
                    refine ow_iconst (v := 5) (by decide) d_Mo_readLine_151 ?_
                    refine ow_hiaload d_Mo_readLine_152 (by decide) rfl rfl (show vp_in (5 : Int32) 146 by unfold vp_in; decide) ?_
                    show ow_AW ow_Y0 (ow_Z Q) M_Mo_readLine (d + 1) 0 0 153 [(0, .ref 70)] [.int (I160 74 5), .ref (1000 + 6), .ref 70] (85, I160, J160, R160) 0 0
                    refine ow_iconst (v := 5) (by decide) d_Mo_readLine_153 ?_
                    refine ow_icmp_ge (tgt := 161) d_Mo_readLine_154 (by decide) (fun c => ?_) (fun c => ?_)
                    · replace T := T.1 c
                      refine ow_iconst (v := 0) (by decide) d_Mo_readLine_161 ?_
                      refine ow_callV (b := 70) (cq := 12) (As := [.ref (1000 + 6), .int 0]) (rest := []) (d2 := d) d_Mo_readLine_162 l_Mo_182 v_Mo_begins (show 70 < 85 by decide) rfl (by decide) rfl (Nat.le_of_ble_eq_true rfl) (Nat.le_refl _) ⟨Nat.le_refl _, Nat.le_refl _⟩ (ow_mono T ?_)
                      rintro r h' ⟨r161, I161, J161, R161, rfl, rfl, hR161, T⟩
                      show ow_AW ow_Y0 (ow_Z Q) M_Mo_readLine (d + 1) 0 0 165 [(0, .ref 70)] [.int r161] (85, I161, J161, R161) 0 0
                      refine ow_if_eq (tgt := 175) d_Mo_readLine_165 (by decide) (fun c => ?_) (fun c => ?_)
                      · replace T := T.1 c
                        refine ow_aload_n 0 rfl d_Mo_readLine_175 ?_
                        refine ow_iconst (v := 1) (by decide) d_Mo_readLine_176 ?_
                        refine ow_aload_n 0 rfl d_Mo_readLine_177 ?_
                        refine ow_gI 173 d_Mo_readLine_178 rfl rfl (by decide) rfl (Or.inl rfl) ?_
                        refine ow_callV (b := 70) (cq := 12) (As := [.int 1, .int (I161 70 4)]) (rest := []) (d2 := d) d_Mo_readLine_181 l_Mo_118 v_Mo_wrong (show 70 < 85 by decide) rfl (by decide) rfl (Nat.le_of_ble_eq_true rfl) (Nat.le_refl _) ⟨Nat.le_refl _, Nat.le_refl _⟩ (ow_mono T ?_)
                        rintro r h' ⟨I162, J162, R162, rfl, rfl, hR162, T⟩
                        show ow_AW ow_Y0 (ow_Z Q) M_Mo_readLine (d + 1) 0 0 184 [(0, .ref 70)] [] (85, I162, J162, R162) 0 0
                        exact ow_vret d_Mo_readLine_184 rfl T
                      · replace T := T.2 c
                        refine ow_aload_n 0 rfl d_Mo_readLine_168 ?_
                        refine ow_callV (b := 70) (cq := 12) (As := []) (rest := []) (d2 := d) d_Mo_readLine_169 l_Mo_201 v_Mo_signedLine (show 70 < 85 by decide) rfl (by decide) rfl (Nat.le_of_ble_eq_true rfl) (Nat.le_refl _) ⟨Nat.le_refl _, Nat.le_refl _⟩ (ow_mono T ?_)
                        rintro r h' ⟨I163, J163, R163, rfl, rfl, hR163, T⟩
                        show ow_AW ow_Y0 (ow_Z Q) M_Mo_readLine (d + 1) 0 0 172 [(0, .ref 70)] [] (85, I163, J163, R163) 0 0
                        refine ow_goto (tgt := 184) d_Mo_readLine_172 (by decide) ?_
                        exact ow_vret d_Mo_readLine_184 rfl T
                    · replace T := T.2 c
                      refine ow_iconst (v := 1) (by decide) d_Mo_readLine_157 ?_
                      refine ow_goto (tgt := 162) d_Mo_readLine_158 (by decide) ?_
                      refine ow_callV (b := 70) (cq := 12) (As := [.ref (1000 + 6), .int 1]) (rest := []) (d2 := d) d_Mo_readLine_162 l_Mo_182 v_Mo_begins (show 70 < 85 by decide) rfl (by decide) rfl (Nat.le_of_ble_eq_true rfl) (Nat.le_refl _) ⟨Nat.le_refl _, Nat.le_refl _⟩ (ow_mono T ?_)
                      rintro r h' ⟨r164, I164, J164, R164, rfl, rfl, hR164, T⟩
                      show ow_AW ow_Y0 (ow_Z Q) M_Mo_readLine (d + 1) 0 0 165 [(0, .ref 70)] [.int r164] (85, I164, J164, R164) 0 0
                      refine ow_if_eq (tgt := 175) d_Mo_readLine_165 (by decide) (fun c => ?_) (fun c => ?_)
                      · replace T := T.1 c
                        refine ow_aload_n 0 rfl d_Mo_readLine_175 ?_
                        refine ow_iconst (v := 1) (by decide) d_Mo_readLine_176 ?_
                        refine ow_aload_n 0 rfl d_Mo_readLine_177 ?_
                        refine ow_gI 173 d_Mo_readLine_178 rfl rfl (by decide) rfl (Or.inl rfl) ?_
                        refine ow_callV (b := 70) (cq := 12) (As := [.int 1, .int (I164 70 4)]) (rest := []) (d2 := d) d_Mo_readLine_181 l_Mo_118 v_Mo_wrong (show 70 < 85 by decide) rfl (by decide) rfl (Nat.le_of_ble_eq_true rfl) (Nat.le_refl _) ⟨Nat.le_refl _, Nat.le_refl _⟩ (ow_mono T ?_)
                        rintro r h' ⟨I165, J165, R165, rfl, rfl, hR165, T⟩
                        show ow_AW ow_Y0 (ow_Z Q) M_Mo_readLine (d + 1) 0 0 184 [(0, .ref 70)] [] (85, I165, J165, R165) 0 0
                        exact ow_vret d_Mo_readLine_184 rfl T
                      · replace T := T.2 c
                        refine ow_aload_n 0 rfl d_Mo_readLine_168 ?_
                        refine ow_callV (b := 70) (cq := 12) (As := []) (rest := []) (d2 := d) d_Mo_readLine_169 l_Mo_201 v_Mo_signedLine (show 70 < 85 by decide) rfl (by decide) rfl (Nat.le_of_ble_eq_true rfl) (Nat.le_refl _) ⟨Nat.le_refl _, Nat.le_refl _⟩ (ow_mono T ?_)
                        rintro r h' ⟨I166, J166, R166, rfl, rfl, hR166, T⟩
                        show ow_AW ow_Y0 (ow_Z Q) M_Mo_readLine (d + 1) 0 0 172 [(0, .ref 70)] [] (85, I166, J166, R166) 0 0
                        refine ow_goto (tgt := 184) d_Mo_readLine_172 (by decide) ?_
                        exact ow_vret d_Mo_readLine_184 rfl T
                  · replace T := T.2 c
                    refine ow_aload_n 0 rfl d_Mo_readLine_137 ?_
                    refine ow_callV (b := 70) (cq := 12) (As := []) (rest := []) (d2 := d) d_Mo_readLine_138 l_Mo_198 v_Mo_veiledLine (show 70 < 85 by decide) rfl (by decide) rfl (Nat.le_of_ble_eq_true rfl) (Nat.le_refl _) ⟨Nat.le_refl _, Nat.le_refl _⟩ (ow_mono T ?_)
                    rintro r h' ⟨I167, J167, R167, rfl, rfl, hR167, T⟩
                    show ow_AW ow_Y0 (ow_Z Q) M_Mo_readLine (d + 1) 0 0 141 [(0, .ref 70)] [] (85, I167, J167, R167) 0 0
                    refine ow_goto (tgt := 184) d_Mo_readLine_141 (by decide) ?_
                    exact ow_vret d_Mo_readLine_184 rfl T
              · replace T := T.2 c
                refine ow_aload_n 0 rfl d_Mo_readLine_106 ?_
                refine ow_callV (b := 70) (cq := 12) (As := []) (rest := []) (d2 := d) d_Mo_readLine_107 l_Mo_195 v_Mo_estateLine (show 70 < 85 by decide) rfl (by decide) rfl (Nat.le_of_ble_eq_true rfl) (Nat.le_refl _) ⟨Nat.le_refl _, Nat.le_refl _⟩ (ow_mono T ?_)
                rintro r h' ⟨I168, J168, R168, rfl, rfl, hR168, T⟩
                show ow_AW ow_Y0 (ow_Z Q) M_Mo_readLine (d + 1) 0 0 110 [(0, .ref 70)] [] (85, I168, J168, R168) 0 0
                refine ow_goto (tgt := 184) d_Mo_readLine_110 (by decide) ?_
                exact ow_vret d_Mo_readLine_184 rfl T
          · replace T := T.2 c
            refine ow_aload_n 0 rfl d_Mo_readLine_75 ?_
            refine ow_callV (b := 70) (cq := 12) (As := []) (rest := []) (d2 := d) d_Mo_readLine_76 l_Mo_192 v_Mo_hermitLine (show 70 < 85 by decide) rfl (by decide) rfl (Nat.le_of_ble_eq_true rfl) (Nat.le_refl _) ⟨Nat.le_refl _, Nat.le_refl _⟩ (ow_mono T ?_)
            rintro r h' ⟨I169, J169, R169, rfl, rfl, hR169, T⟩
            show ow_AW ow_Y0 (ow_Z Q) M_Mo_readLine (d + 1) 0 0 79 [(0, .ref 70)] [] (85, I169, J169, R169) 0 0
            refine ow_goto (tgt := 184) d_Mo_readLine_79 (by decide) ?_
            exact ow_vret d_Mo_readLine_184 rfl T
        · replace T := T.2 c
          refine ow_aload_n 0 rfl d_Mo_readLine_58 ?_
          refine ow_callV (b := 70) (cq := 12) (As := []) (rest := []) (d2 := d) d_Mo_readLine_59 l_Mo_189 v_Mo_sendsLine (show 70 < 85 by decide) rfl (by decide) rfl (Nat.le_of_ble_eq_true rfl) (Nat.le_refl _) ⟨Nat.le_refl _, Nat.le_refl _⟩ (ow_mono T ?_)
          rintro r h' ⟨I170, J170, R170, rfl, rfl, hR170, T⟩
          show ow_AW ow_Y0 (ow_Z Q) M_Mo_readLine (d + 1) 0 0 62 [(0, .ref 70)] [] (85, I170, J170, R170) 0 0
          refine ow_goto (tgt := 184) d_Mo_readLine_62 (by decide) ?_
          exact ow_vret d_Mo_readLine_184 rfl T
      · replace T := T.2 c
        refine ow_aload_n 0 rfl d_Mo_readLine_41 ?_
        refine ow_callV (b := 70) (cq := 12) (As := []) (rest := []) (d2 := d) d_Mo_readLine_42 l_Mo_186 v_Mo_follyLine (show 70 < 85 by decide) rfl (by decide) rfl (Nat.le_of_ble_eq_true rfl) (Nat.le_refl _) ⟨Nat.le_refl _, Nat.le_refl _⟩ (ow_mono T ?_)
        rintro r h' ⟨I171, J171, R171, rfl, rfl, hR171, T⟩
        show ow_AW ow_Y0 (ow_Z Q) M_Mo_readLine (d + 1) 0 0 45 [(0, .ref 70)] [] (85, I171, J171, R171) 0 0
        refine ow_goto (tgt := 184) d_Mo_readLine_45 (by decide) ?_
        exact ow_vret d_Mo_readLine_184 rfl T
  · replace T := T.2 c
    refine ow_aload_n 0 rfl d_Mo_readLine_9 ?_
    refine ow_callV (b := 70) (cq := 12) (As := []) (rest := []) (d2 := d) d_Mo_readLine_10 l_Mo_179 v_Mo_shireLine (show 70 < 85 by decide) rfl (by decide) rfl (Nat.le_of_ble_eq_true rfl) (Nat.le_refl _) ⟨Nat.le_refl _, Nat.le_refl _⟩ (ow_mono T ?_)
    rintro r h' ⟨I172, J172, R172, rfl, rfl, hR172, T⟩
    show ow_AW ow_Y0 (ow_Z Q) M_Mo_readLine (d + 1) 0 0 13 [(0, .ref 70)] [] (85, I172, J172, R172) 0 0
    refine ow_goto (tgt := 184) d_Mo_readLine_13 (by decide) ?_
    exact ow_vret d_Mo_readLine_184 rfl T
set_option maxRecDepth 4000 in
theorem t_Mo_shireLine {d : Nat} {I : Nat → Nat → Int32} {J : Nat → Nat → Int64} {R : Nat → Nat → Option Nat} {Q : Option Value → ow_H → Prop}   (hR : ow_RF R) (T : (((I 74 6) ≤ 0 → (((I 70 13) = 0 → (ow_AM M_Mo_next d [.ref 70] (85, I, J, R) (fun r h' => ∃ (I14 : Nat → Nat → Int32) (J14 : Nat → Nat → Int64) (R14 : Nat → Nat → Option Nat), r = none ∧ h' = (85, I14, J14, R14) ∧ ow_RF R14 ∧ (ow_AM M_Mo_after d [.ref 70, .ref (1000 + 7), .int 0, .int 100] (85, I14, J14, R14) (fun r h' => ∃ (r15 : Int32) (I15 : Nat → Nat → Int32) (J15 : Nat → Nat → Int64) (R15 : Nat → Nat → Option Nat), r = some (.int r15) ∧ h' = (85, I15, J15, R15) ∧ ow_RF R15 ∧ (∀ (I16 : Nat → Nat → Int32), I16 = ow_u I15 74 0 r15 → (ow_AM M_Mo_after d [.ref 70, .ref (1000 + 8), .int 0, .int 9] (85, I16, J15, R15) (fun r h' => ∃ (r17 : Int32) (I17 : Nat → Nat → Int32) (J17 : Nat → Nat → Int64) (R17 : Nat → Nat → Option Nat), r = some (.int r17) ∧ h' = (85, I17, J17, R17) ∧ ow_RF R17 ∧ (∀ (I18 : Nat → Nat → Int32), I18 = ow_u I17 74 1 r17 → ((¬ (I18 70 13) = 0 → Q none (85, I18, J17, R17)) ∧ ((I18 70 13) = 0 → (∀ (I19 : Nat → Nat → Int32), I19 = ow_u I18 74 6 1 → Q none (85, I19, J17, R17))))))))))))) ∧ (¬ (I 70 13) = 0 → Q none (85, I, J, R)))) ∧ (¬ (I 74 6) ≤ 0 → (ow_AM M_Mo_wrong d [.ref 70, .int 3, .int (I 70 4)] (85, I, J, R) (fun r h' => ∃ (I20 : Nat → Nat → Int32) (J20 : Nat → Nat → Int64) (R20 : Nat → Nat → Option Nat), r = none ∧ h' = (85, I20, J20, R20) ∧ ow_RF R20 ∧ (((I20 70 13) = 0 → (ow_AM M_Mo_next d [.ref 70] (85, I20, J20, R20) (fun r h' => ∃ (I21 : Nat → Nat → Int32) (J21 : Nat → Nat → Int64) (R21 : Nat → Nat → Option Nat), r = none ∧ h' = (85, I21, J21, R21) ∧ ow_RF R21 ∧ (ow_AM M_Mo_after d [.ref 70, .ref (1000 + 7), .int 0, .int 100] (85, I21, J21, R21) (fun r h' => ∃ (r22 : Int32) (I22 : Nat → Nat → Int32) (J22 : Nat → Nat → Int64) (R22 : Nat → Nat → Option Nat), r = some (.int r22) ∧ h' = (85, I22, J22, R22) ∧ ow_RF R22 ∧ (∀ (I23 : Nat → Nat → Int32), I23 = ow_u I22 74 0 r22 → (ow_AM M_Mo_after d [.ref 70, .ref (1000 + 8), .int 0, .int 9] (85, I23, J22, R22) (fun r h' => ∃ (r24 : Int32) (I24 : Nat → Nat → Int32) (J24 : Nat → Nat → Int64) (R24 : Nat → Nat → Option Nat), r = some (.int r24) ∧ h' = (85, I24, J24, R24) ∧ ow_RF R24 ∧ (∀ (I25 : Nat → Nat → Int32), I25 = ow_u I24 74 1 r24 → ((¬ (I25 70 13) = 0 → Q none (85, I25, J24, R24)) ∧ ((I25 70 13) = 0 → (∀ (I26 : Nat → Nat → Int32), I26 = ow_u I25 74 6 1 → Q none (85, I26, J24, R24))))))))))))) ∧ (¬ (I20 70 13) = 0 → Q none (85, I20, J20, R20)))))))) : ow_AM M_Mo_shireLine (d + 1) [.ref 70] (85, I, J, R) Q := by
  refine ow_enter (by decide) (Nat.le_of_ble_eq_true rfl) ?_
  show ow_AW ow_Y0 (ow_Z Q) M_Mo_shireLine (d + 1) 0 0 0 [(0, .ref 70)] [] (85, I, J, R) 0 0
  refine ow_aload_n 0 rfl d_Mo_shireLine_0 ?_
  refine ow_gR (a := 74) 185 d_Mo_shireLine_1 rfl rfl (by decide) rfl ⟨rfl, hR 70 16 (by decide)⟩ ?_
  refine ow_bipush (v := 6) (by decide) d_Mo_shireLine_4 ?_
  refine ow_hiaload d_Mo_shireLine_6 (by decide) rfl rfl (show vp_in (6 : Int32) 146 by unfold vp_in; decide) ?_
  show ow_AW ow_Y0 (ow_Z Q) M_Mo_shireLine (d + 1) 0 0 7 [(0, .ref 70)] [.int (I 74 6)] (85, I, J, R) 0 0
  refine ow_if_le (tgt := 19) d_Mo_shireLine_7 (by decide) (fun c => ?_) (fun c => ?_)
  · replace T := T.1 c
    refine ow_aload_n 0 rfl d_Mo_shireLine_19 ?_
    refine ow_gI 182 d_Mo_shireLine_20 rfl rfl (by decide) rfl (Or.inr rfl) ?_
    refine ow_if_eq (tgt := 27) d_Mo_shireLine_23 (by decide) (fun c => ?_) (fun c => ?_)
    · replace T := T.1 c
      refine ow_aload_n 0 rfl d_Mo_shireLine_27 ?_
      refine ow_callV (b := 70) (cq := 12) (As := []) (rest := []) (d2 := d) d_Mo_shireLine_28 l_Mo_112 v_Mo_next (show 70 < 85 by decide) rfl (by decide) rfl (Nat.le_of_ble_eq_true rfl) (Nat.le_refl _) ⟨Nat.le_refl _, Nat.le_refl _⟩ (ow_mono T ?_)
      rintro r h' ⟨I14, J14, R14, rfl, rfl, hR14, T⟩
      show ow_AW ow_Y0 (ow_Z Q) M_Mo_shireLine (d + 1) 0 0 31 [(0, .ref 70)] [] (85, I14, J14, R14) 0 0
      refine ow_aload_n 0 rfl d_Mo_shireLine_31 ?_
      refine ow_gR (a := 74) 185 d_Mo_shireLine_32 rfl rfl (by decide) rfl ⟨rfl, hR14 70 16 (by decide)⟩ ?_
      refine ow_iconst (v := 0) (by decide) d_Mo_shireLine_35 ?_
      refine ow_aload_n 0 rfl d_Mo_shireLine_36 ?_
      refine ow_ldS (tx := "wind") (i := 7) 20 d_Mo_shireLine_37 rfl ?_
      refine ow_iconst (v := 0) (by decide) d_Mo_shireLine_39 ?_
      refine ow_bipush (v := 100) (by decide) d_Mo_shireLine_40 ?_
      refine ow_callV (b := 70) (cq := 12) (As := [.ref (1000 + 7), .int 0, .int 100]) (rest := [.int 0, .ref 74]) (d2 := d) d_Mo_shireLine_42 l_Mo_206 v_Mo_after (show 70 < 85 by decide) rfl (by decide) rfl (Nat.le_of_ble_eq_true rfl) (Nat.le_refl _) ⟨Nat.le_refl _, Nat.le_refl _⟩ (ow_mono T ?_)
      rintro r h' ⟨r15, I15, J15, R15, rfl, rfl, hR15, T⟩
      show ow_AW ow_Y0 (ow_Z Q) M_Mo_shireLine (d + 1) 0 0 45 [(0, .ref 70)] [.int r15, .int 0, .ref 74] (85, I15, J15, R15) 0 0
      refine ow_hiastore d_Mo_shireLine_45 (by decide) rfl rfl (show vp_in (0 : Int32) 146 by unfold vp_in; decide) ?_
      obtain ⟨I16, eI16⟩ : ∃ uu, uu = ow_u I15 74 0 r15 := ⟨_, rfl⟩
      replace T := T I16 eI16
      show ow_AW ow_Y0 (ow_Z Q) M_Mo_shireLine (d + 1) 0 0 46 [(0, .ref 70)] [] (85, (ow_u I15 74 0 r15), J15, R15) 0 0
      rw [← eI16]
      refine ow_aload_n 0 rfl d_Mo_shireLine_46 ?_
      refine ow_gR (a := 74) 185 d_Mo_shireLine_47 rfl rfl (by decide) rfl ⟨rfl, hR15 70 16 (by decide)⟩ ?_
      refine ow_iconst (v := 1) (by decide) d_Mo_shireLine_50 ?_
      refine ow_aload_n 0 rfl d_Mo_shireLine_51 ?_
      refine ow_ldS (tx := "rot") (i := 8) 21 d_Mo_shireLine_52 rfl ?_
      refine ow_iconst (v := 0) (by decide) d_Mo_shireLine_54 ?_
      refine ow_bipush (v := 9) (by decide) d_Mo_shireLine_55 ?_
      refine ow_callV (b := 70) (cq := 12) (As := [.ref (1000 + 8), .int 0, .int 9]) (rest := [.int 1, .ref 74]) (d2 := d) d_Mo_shireLine_57 l_Mo_206 v_Mo_after (show 70 < 85 by decide) rfl (by decide) rfl (Nat.le_of_ble_eq_true rfl) (Nat.le_refl _) ⟨Nat.le_refl _, Nat.le_refl _⟩ (ow_mono T ?_)
      rintro r h' ⟨r17, I17, J17, R17, rfl, rfl, hR17, T⟩
      show ow_AW ow_Y0 (ow_Z Q) M_Mo_shireLine (d + 1) 0 0 60 [(0, .ref 70)] [.int r17, .int 1, .ref 74] (85, I17, J17, R17) 0 0
      refine ow_hiastore d_Mo_shireLine_60 (by decide) rfl rfl (show vp_in (1 : Int32) 146 by unfold vp_in; decide) ?_
      obtain ⟨I18, eI18⟩ : ∃ uu, uu = ow_u I17 74 1 r17 := ⟨_, rfl⟩
      replace T := T I18 eI18
      show ow_AW ow_Y0 (ow_Z Q) M_Mo_shireLine (d + 1) 0 0 61 [(0, .ref 70)] [] (85, (ow_u I17 74 1 r17), J17, R17) 0 0
      rw [← eI18]
      refine ow_aload_n 0 rfl d_Mo_shireLine_61 ?_
      refine ow_gI 182 d_Mo_shireLine_62 rfl rfl (by decide) rfl (Or.inr rfl) ?_
      refine ow_if_ne (tgt := 76) d_Mo_shireLine_65 (by decide) (fun c => ?_) (fun c => ?_)
      · replace T := T.1 c
        exact ow_vret d_Mo_shireLine_76 rfl T
      · replace T := T.2 c
        refine ow_aload_n 0 rfl d_Mo_shireLine_68 ?_
        refine ow_gR (a := 74) 185 d_Mo_shireLine_69 rfl rfl (by decide) rfl ⟨rfl, hR17 70 16 (by decide)⟩ ?_
        refine ow_bipush (v := 6) (by decide) d_Mo_shireLine_72 ?_
        refine ow_iconst (v := 1) (by decide) d_Mo_shireLine_74 ?_
        refine ow_hiastore d_Mo_shireLine_75 (by decide) rfl rfl (show vp_in (6 : Int32) 146 by unfold vp_in; decide) ?_
        obtain ⟨I19, eI19⟩ : ∃ uu, uu = ow_u I18 74 6 1 := ⟨_, rfl⟩
        replace T := T I19 eI19
        show ow_AW ow_Y0 (ow_Z Q) M_Mo_shireLine (d + 1) 0 0 76 [(0, .ref 70)] [] (85, (ow_u I18 74 6 1), J17, R17) 0 0
        rw [← eI19]
        exact ow_vret d_Mo_shireLine_76 rfl T
    · replace T := T.2 c
      exact ow_vret d_Mo_shireLine_26 rfl T
  · replace T := T.2 c
    refine ow_aload_n 0 rfl d_Mo_shireLine_10 ?_
    refine ow_iconst (v := 3) (by decide) d_Mo_shireLine_11 ?_
    refine ow_aload_n 0 rfl d_Mo_shireLine_12 ?_
    refine ow_gI 173 d_Mo_shireLine_13 rfl rfl (by decide) rfl (Or.inl rfl) ?_
    refine ow_callV (b := 70) (cq := 12) (As := [.int 3, .int (I 70 4)]) (rest := []) (d2 := d) d_Mo_shireLine_16 l_Mo_118 v_Mo_wrong (show 70 < 85 by decide) rfl (by decide) rfl (Nat.le_of_ble_eq_true rfl) (Nat.le_refl _) ⟨Nat.le_refl _, Nat.le_refl _⟩ (ow_mono T ?_)
    rintro r h' ⟨I20, J20, R20, rfl, rfl, hR20, T⟩
    show ow_AW ow_Y0 (ow_Z Q) M_Mo_shireLine (d + 1) 0 0 19 [(0, .ref 70)] [] (85, I20, J20, R20) 0 0
    refine ow_aload_n 0 rfl d_Mo_shireLine_19 ?_
    refine ow_gI 182 d_Mo_shireLine_20 rfl rfl (by decide) rfl (Or.inr rfl) ?_
    refine ow_if_eq (tgt := 27) d_Mo_shireLine_23 (by decide) (fun c => ?_) (fun c => ?_)
    · replace T := T.1 c
      refine ow_aload_n 0 rfl d_Mo_shireLine_27 ?_
      refine ow_callV (b := 70) (cq := 12) (As := []) (rest := []) (d2 := d) d_Mo_shireLine_28 l_Mo_112 v_Mo_next (show 70 < 85 by decide) rfl (by decide) rfl (Nat.le_of_ble_eq_true rfl) (Nat.le_refl _) ⟨Nat.le_refl _, Nat.le_refl _⟩ (ow_mono T ?_)
      rintro r h' ⟨I21, J21, R21, rfl, rfl, hR21, T⟩
      show ow_AW ow_Y0 (ow_Z Q) M_Mo_shireLine (d + 1) 0 0 31 [(0, .ref 70)] [] (85, I21, J21, R21) 0 0
      refine ow_aload_n 0 rfl d_Mo_shireLine_31 ?_
      refine ow_gR (a := 74) 185 d_Mo_shireLine_32 rfl rfl (by decide) rfl ⟨rfl, hR21 70 16 (by decide)⟩ ?_
      refine ow_iconst (v := 0) (by decide) d_Mo_shireLine_35 ?_
      refine ow_aload_n 0 rfl d_Mo_shireLine_36 ?_
      refine ow_ldS (tx := "wind") (i := 7) 20 d_Mo_shireLine_37 rfl ?_
      refine ow_iconst (v := 0) (by decide) d_Mo_shireLine_39 ?_
      refine ow_bipush (v := 100) (by decide) d_Mo_shireLine_40 ?_
      refine ow_callV (b := 70) (cq := 12) (As := [.ref (1000 + 7), .int 0, .int 100]) (rest := [.int 0, .ref 74]) (d2 := d) d_Mo_shireLine_42 l_Mo_206 v_Mo_after (show 70 < 85 by decide) rfl (by decide) rfl (Nat.le_of_ble_eq_true rfl) (Nat.le_refl _) ⟨Nat.le_refl _, Nat.le_refl _⟩ (ow_mono T ?_)
      rintro r h' ⟨r22, I22, J22, R22, rfl, rfl, hR22, T⟩
      show ow_AW ow_Y0 (ow_Z Q) M_Mo_shireLine (d + 1) 0 0 45 [(0, .ref 70)] [.int r22, .int 0, .ref 74] (85, I22, J22, R22) 0 0
      refine ow_hiastore d_Mo_shireLine_45 (by decide) rfl rfl (show vp_in (0 : Int32) 146 by unfold vp_in; decide) ?_
      obtain ⟨I23, eI23⟩ : ∃ uu, uu = ow_u I22 74 0 r22 := ⟨_, rfl⟩
      replace T := T I23 eI23
      show ow_AW ow_Y0 (ow_Z Q) M_Mo_shireLine (d + 1) 0 0 46 [(0, .ref 70)] [] (85, (ow_u I22 74 0 r22), J22, R22) 0 0
      rw [← eI23]
      refine ow_aload_n 0 rfl d_Mo_shireLine_46 ?_
      refine ow_gR (a := 74) 185 d_Mo_shireLine_47 rfl rfl (by decide) rfl ⟨rfl, hR22 70 16 (by decide)⟩ ?_
      refine ow_iconst (v := 1) (by decide) d_Mo_shireLine_50 ?_
      refine ow_aload_n 0 rfl d_Mo_shireLine_51 ?_
      refine ow_ldS (tx := "rot") (i := 8) 21 d_Mo_shireLine_52 rfl ?_
      refine ow_iconst (v := 0) (by decide) d_Mo_shireLine_54 ?_
      refine ow_bipush (v := 9) (by decide) d_Mo_shireLine_55 ?_
      refine ow_callV (b := 70) (cq := 12) (As := [.ref (1000 + 8), .int 0, .int 9]) (rest := [.int 1, .ref 74]) (d2 := d) d_Mo_shireLine_57 l_Mo_206 v_Mo_after (show 70 < 85 by decide) rfl (by decide) rfl (Nat.le_of_ble_eq_true rfl) (Nat.le_refl _) ⟨Nat.le_refl _, Nat.le_refl _⟩ (ow_mono T ?_)
      rintro r h' ⟨r24, I24, J24, R24, rfl, rfl, hR24, T⟩
      show ow_AW ow_Y0 (ow_Z Q) M_Mo_shireLine (d + 1) 0 0 60 [(0, .ref 70)] [.int r24, .int 1, .ref 74] (85, I24, J24, R24) 0 0
      refine ow_hiastore d_Mo_shireLine_60 (by decide) rfl rfl (show vp_in (1 : Int32) 146 by unfold vp_in; decide) ?_
      obtain ⟨I25, eI25⟩ : ∃ uu, uu = ow_u I24 74 1 r24 := ⟨_, rfl⟩
      replace T := T I25 eI25
      show ow_AW ow_Y0 (ow_Z Q) M_Mo_shireLine (d + 1) 0 0 61 [(0, .ref 70)] [] (85, (ow_u I24 74 1 r24), J24, R24) 0 0
      rw [← eI25]
      refine ow_aload_n 0 rfl d_Mo_shireLine_61 ?_
      refine ow_gI 182 d_Mo_shireLine_62 rfl rfl (by decide) rfl (Or.inr rfl) ?_
      refine ow_if_ne (tgt := 76) d_Mo_shireLine_65 (by decide) (fun c => ?_) (fun c => ?_)
      · replace T := T.1 c
        exact ow_vret d_Mo_shireLine_76 rfl T
      · replace T := T.2 c
        refine ow_aload_n 0 rfl d_Mo_shireLine_68 ?_
        refine ow_gR (a := 74) 185 d_Mo_shireLine_69 rfl rfl (by decide) rfl ⟨rfl, hR24 70 16 (by decide)⟩ ?_
        refine ow_bipush (v := 6) (by decide) d_Mo_shireLine_72 ?_
        refine ow_iconst (v := 1) (by decide) d_Mo_shireLine_74 ?_
        refine ow_hiastore d_Mo_shireLine_75 (by decide) rfl rfl (show vp_in (6 : Int32) 146 by unfold vp_in; decide) ?_
        obtain ⟨I26, eI26⟩ : ∃ uu, uu = ow_u I25 74 6 1 := ⟨_, rfl⟩
        replace T := T I26 eI26
        show ow_AW ow_Y0 (ow_Z Q) M_Mo_shireLine (d + 1) 0 0 76 [(0, .ref 70)] [] (85, (ow_u I25 74 6 1), J24, R24) 0 0
        rw [← eI26]
        exact ow_vret d_Mo_shireLine_76 rfl T
    · replace T := T.2 c
      exact ow_vret d_Mo_shireLine_26 rfl T
set_option maxRecDepth 4000 in
theorem t_Mo_follyLine_100 {d : Nat} {I : Nat → Nat → Int32} {J : Nat → Nat → Int64} {R : Nat → Nat → Option Nat} {Q : Option Value → ow_H → Prop}  {v1 : Int32} {v2 : Int32}  (hR : ow_RF R) (T : (ow_AM M_Mo_pass d [.ref 70] (85, I, J, R) (fun r h' => ∃ (I8 : Nat → Nat → Int32) (J8 : Nat → Nat → Int64) (R8 : Nat → Nat → Option Nat), r = none ∧ h' = (85, I8, J8, R8) ∧ ow_RF R8 ∧ (vp_in (7 + (2 * v1)) 146 ∧ (∀ (I9 : Nat → Nat → Int32), I9 = ow_u I8 74 ((7 + (2 * v1)).toNatClampNeg) v2 → (ow_AM M_Mo_after d [.ref 70, .ref (1000 + 14), .int 0, .int 99] (85, I9, J8, R8) (fun r h' => ∃ (r10 : Int32) (I10 : Nat → Nat → Int32) (J10 : Nat → Nat → Int64) (R10 : Nat → Nat → Option Nat), r = some (.int r10) ∧ h' = (85, I10, J10, R10) ∧ ow_RF R10 ∧ (vp_in ((7 + (2 * v1)) + 1) 146 ∧ (∀ (I11 : Nat → Nat → Int32), I11 = ow_u I10 74 (((7 + (2 * v1)) + 1).toNatClampNeg) r10 → (((I11 70 13) = 0 → (vp_in ((7 + (2 * v1)) + 1) 146 ∧ (vp_in v1 14 ∧ (∀ (I12 : Nat → Nat → Int32), I12 = ow_u I11 76 (v1.toNatClampNeg) (I11 74 ((7 + (2 * v1)) + 1).toNatClampNeg) → (∀ (I13 : Nat → Nat → Int32), I13 = ow_u I12 74 2 ((I12 74 2) + 1) → Q none (85, I13, J10, R10)))))) ∧ (¬ (I11 70 13) = 0 → Q none (85, I11, J10, R10)))))))))))) : ow_AW ow_Y0 (ow_Z Q) M_Mo_follyLine (d + 1) 0 0 100 [(0, .ref 70), (1, .int v1), (2, .int v2)] [] (85, I, J, R) 0 0 := by
  refine ow_aload_n 0 rfl d_Mo_follyLine_100 ?_
  refine ow_callV (b := 70) (cq := 12) (As := []) (rest := []) (d2 := d) d_Mo_follyLine_101 l_Mo_176 v_Mo_pass (show 70 < 85 by decide) rfl (by decide) rfl (Nat.le_of_ble_eq_true rfl) (Nat.le_refl _) ⟨Nat.le_refl _, Nat.le_refl _⟩ (ow_mono T ?_)
  rintro r h' ⟨I8, J8, R8, rfl, rfl, hR8, T⟩
  show ow_AW ow_Y0 (ow_Z Q) M_Mo_follyLine (d + 1) 0 0 104 [(0, .ref 70), (1, .int v1), (2, .int v2)] [] (85, I8, J8, R8) 0 0
  refine ow_aload_n 0 rfl d_Mo_follyLine_104 ?_
  refine ow_gR (a := 74) 185 d_Mo_follyLine_105 rfl rfl (by decide) rfl ⟨rfl, hR8 70 16 (by decide)⟩ ?_
  refine ow_bipush (v := 7) (by decide) d_Mo_follyLine_108 ?_
  refine ow_iconst (v := 2) (by decide) d_Mo_follyLine_110 ?_
  refine ow_iload_n 1 rfl d_Mo_follyLine_111 ?_
  refine ow_imul d_Mo_follyLine_112 ?_
  refine ow_iadd d_Mo_follyLine_113 ?_
  refine ow_iload_n 2 rfl d_Mo_follyLine_114 ?_
  obtain ⟨cI, T⟩ := T
  refine ow_hiastore d_Mo_follyLine_115 (by decide) rfl rfl cI ?_
  obtain ⟨I9, eI9⟩ : ∃ uu, uu = ow_u I8 74 ((7 + (2 * v1)).toNatClampNeg) v2 := ⟨_, rfl⟩
  replace T := T I9 eI9
  rw [← eI9]
  refine ow_aload_n 0 rfl d_Mo_follyLine_116 ?_
  refine ow_gR (a := 74) 185 d_Mo_follyLine_117 rfl rfl (by decide) rfl ⟨rfl, hR8 70 16 (by decide)⟩ ?_
  refine ow_bipush (v := 7) (by decide) d_Mo_follyLine_120 ?_
  refine ow_iconst (v := 2) (by decide) d_Mo_follyLine_122 ?_
  refine ow_iload_n 1 rfl d_Mo_follyLine_123 ?_
  refine ow_imul d_Mo_follyLine_124 ?_
  refine ow_iadd d_Mo_follyLine_125 ?_
  refine ow_iconst (v := 1) (by decide) d_Mo_follyLine_126 ?_
  refine ow_iadd d_Mo_follyLine_127 ?_
  refine ow_aload_n 0 rfl d_Mo_follyLine_128 ?_
  refine ow_ldS (tx := "sound") (i := 14) 33 d_Mo_follyLine_129 rfl ?_
  refine ow_iconst (v := 0) (by decide) d_Mo_follyLine_131 ?_
  refine ow_bipush (v := 99) (by decide) d_Mo_follyLine_132 ?_
  refine ow_callV (b := 70) (cq := 12) (As := [.ref (1000 + 14), .int 0, .int 99]) (rest := [.int ((7 + (2 * v1)) + 1), .ref 74]) (d2 := d) d_Mo_follyLine_134 l_Mo_206 v_Mo_after (show 70 < 85 by decide) rfl (by decide) rfl (Nat.le_of_ble_eq_true rfl) (Nat.le_refl _) ⟨Nat.le_refl _, Nat.le_refl _⟩ (ow_mono T ?_)
  rintro r h' ⟨r10, I10, J10, R10, rfl, rfl, hR10, T⟩
  show ow_AW ow_Y0 (ow_Z Q) M_Mo_follyLine (d + 1) 0 0 137 [(0, .ref 70), (1, .int v1), (2, .int v2)] [.int r10, .int ((7 + (2 * v1)) + 1), .ref 74] (85, I10, J10, R10) 0 0
  obtain ⟨cI, T⟩ := T
  refine ow_hiastore d_Mo_follyLine_137 (by decide) rfl rfl cI ?_
  obtain ⟨I11, eI11⟩ : ∃ uu, uu = ow_u I10 74 (((7 + (2 * v1)) + 1).toNatClampNeg) r10 := ⟨_, rfl⟩
  replace T := T I11 eI11
  rw [← eI11]
  refine ow_aload_n 0 rfl d_Mo_follyLine_138 ?_
  refine ow_gI 182 d_Mo_follyLine_139 rfl rfl (by decide) rfl (Or.inr rfl) ?_
  refine ow_if_eq (tgt := 146) d_Mo_follyLine_142 (by decide) (fun c => ?_) (fun c => ?_)
  · replace T := T.1 c
    refine ow_aload_n 0 rfl d_Mo_follyLine_146 ?_
    refine ow_gR (a := 76) 187 d_Mo_follyLine_147 rfl rfl (by decide) rfl ⟨rfl, hR10 70 18 (by decide)⟩ ?_
    refine ow_iload_n 1 rfl d_Mo_follyLine_150 ?_
    refine ow_aload_n 0 rfl d_Mo_follyLine_151 ?_
    refine ow_gR (a := 74) 185 d_Mo_follyLine_152 rfl rfl (by decide) rfl ⟨rfl, hR10 70 16 (by decide)⟩ ?_
    refine ow_bipush (v := 7) (by decide) d_Mo_follyLine_155 ?_
    refine ow_iconst (v := 2) (by decide) d_Mo_follyLine_157 ?_
    refine ow_iload_n 1 rfl d_Mo_follyLine_158 ?_
    refine ow_imul d_Mo_follyLine_159 ?_
    refine ow_iadd d_Mo_follyLine_160 ?_
    refine ow_iconst (v := 1) (by decide) d_Mo_follyLine_161 ?_
    refine ow_iadd d_Mo_follyLine_162 ?_
    obtain ⟨cI, T⟩ := T
    refine ow_hiaload d_Mo_follyLine_163 (by decide) rfl rfl cI ?_
    obtain ⟨cI, T⟩ := T
    refine ow_hiastore d_Mo_follyLine_164 (by decide) rfl rfl cI ?_
    obtain ⟨I12, eI12⟩ : ∃ uu, uu = ow_u I11 76 (v1.toNatClampNeg) (I11 74 ((7 + (2 * v1)) + 1).toNatClampNeg) := ⟨_, rfl⟩
    replace T := T I12 eI12
    rw [← eI12]
    refine ow_aload_n 0 rfl d_Mo_follyLine_165 ?_
    refine ow_gR (a := 74) 185 d_Mo_follyLine_166 rfl rfl (by decide) rfl ⟨rfl, hR10 70 16 (by decide)⟩ ?_
    refine ow_iconst (v := 2) (by decide) d_Mo_follyLine_169 ?_
    refine ow_dup2_11 rfl rfl d_Mo_follyLine_170 ?_
    refine ow_hiaload d_Mo_follyLine_171 (by decide) rfl rfl (show vp_in (2 : Int32) 146 by unfold vp_in; decide) ?_
    show ow_AW ow_Y0 (ow_Z Q) M_Mo_follyLine (d + 1) 0 0 172 [(0, .ref 70), (1, .int v1), (2, .int v2)] [.int (I12 74 2), .int 2, .ref 74] (85, I12, J10, R10) 0 0
    refine ow_iconst (v := 1) (by decide) d_Mo_follyLine_172 ?_
    refine ow_iadd d_Mo_follyLine_173 ?_
    refine ow_hiastore d_Mo_follyLine_174 (by decide) rfl rfl (show vp_in (2 : Int32) 146 by unfold vp_in; decide) ?_
    obtain ⟨I13, eI13⟩ : ∃ uu, uu = ow_u I12 74 2 ((I12 74 2) + 1) := ⟨_, rfl⟩
    replace T := T I13 eI13
    show ow_AW ow_Y0 (ow_Z Q) M_Mo_follyLine (d + 1) 0 0 175 [(0, .ref 70), (1, .int v1), (2, .int v2)] [] (85, (ow_u I12 74 2 ((I12 74 2) + 1)), J10, R10) 0 0
    rw [← eI13]
    exact ow_vret d_Mo_follyLine_175 rfl T
  · replace T := T.2 c
    exact ow_vret d_Mo_follyLine_145 rfl T
set_option maxRecDepth 4000 in
theorem t_Mo_follyLine {d : Nat} {I : Nat → Nat → Int32} {J : Nat → Nat → Int64} {R : Nat → Nat → Option Nat} {Q : Option Value → ow_H → Prop}   (hR : ow_RF R) (T : (((I 70 13) = 0 → (ow_AM M_Mo_newName d [.ref 70, .int (I 74 2)] (85, I, J, R) (fun r h' => ∃ (I14 : Nat → Nat → Int32) (J14 : Nat → Nat → Int64) (R14 : Nat → Nat → Option Nat), r = none ∧ h' = (85, I14, J14, R14) ∧ ow_RF R14 ∧ (ow_AM M_Mo_isWord d [.ref 70, .ref (1000 + 9)] (85, I14, J14, R14) (fun r h' => ∃ (r15 : Int32) (I15 : Nat → Nat → Int32) (J15 : Nat → Nat → Int64) (R15 : Nat → Nat → Option Nat), r = some (.int r15) ∧ h' = (85, I15, J15, R15) ∧ ow_RF R15 ∧ ((r15 = 0 → (ow_AM M_Mo_isWord d [.ref 70, .ref (1000 + 10)] (85, I15, J15, R15) (fun r h' => ∃ (r16 : Int32) (I16 : Nat → Nat → Int32) (J16 : Nat → Nat → Int64) (R16 : Nat → Nat → Option Nat), r = some (.int r16) ∧ h' = (85, I16, J16, R16) ∧ ow_RF R16 ∧ ((r16 = 0 → (ow_AM M_Mo_isWord d [.ref 70, .ref (1000 + 11)] (85, I16, J16, R16) (fun r h' => ∃ (r17 : Int32) (I17 : Nat → Nat → Int32) (J17 : Nat → Nat → Int64) (R17 : Nat → Nat → Option Nat), r = some (.int r17) ∧ h' = (85, I17, J17, R17) ∧ ow_RF R17 ∧ ((r17 = 0 → (ow_AM M_Mo_isWord d [.ref 70, .ref (1000 + 12)] (85, I17, J17, R17) (fun r h' => ∃ (r18 : Int32) (I18 : Nat → Nat → Int32) (J18 : Nat → Nat → Int64) (R18 : Nat → Nat → Option Nat), r = some (.int r18) ∧ h' = (85, I18, J18, R18) ∧ ow_RF R18 ∧ ((r18 = 0 → (ow_AM M_Mo_isWord d [.ref 70, .ref (1000 + 13)] (85, I18, J18, R18) (fun r h' => ∃ (r19 : Int32) (I19 : Nat → Nat → Int32) (J19 : Nat → Nat → Int64) (R19 : Nat → Nat → Option Nat), r = some (.int r19) ∧ h' = (85, I19, J19, R19) ∧ ow_RF R19 ∧ ((r19 = 0 → (ow_AM M_Mo_wrong d [.ref 70, .int 1, .int (I19 70 4)] (85, I19, J19, R19) (fun r h' => ∃ (I20 : Nat → Nat → Int32) (J20 : Nat → Nat → Int64) (R20 : Nat → Nat → Option Nat), r = none ∧ h' = (85, I20, J20, R20) ∧ ow_RF R20 ∧ ow_AW ow_Y0 (ow_Z Q) M_Mo_follyLine (d + 1) 0 0 100 [(0, .ref 70), (1, .int (I 74 2)), (2, .int (-1))] [] (85, I20, J20, R20) 0 0))) ∧ (¬ r19 = 0 → ow_AW ow_Y0 (ow_Z Q) M_Mo_follyLine (d + 1) 0 0 100 [(0, .ref 70), (1, .int (I 74 2)), (2, .int 4)] [] (85, I19, J19, R19) 0 0))))) ∧ (¬ r18 = 0 → ow_AW ow_Y0 (ow_Z Q) M_Mo_follyLine (d + 1) 0 0 100 [(0, .ref 70), (1, .int (I 74 2)), (2, .int 3)] [] (85, I18, J18, R18) 0 0))))) ∧ (¬ r17 = 0 → ow_AW ow_Y0 (ow_Z Q) M_Mo_follyLine (d + 1) 0 0 100 [(0, .ref 70), (1, .int (I 74 2)), (2, .int 2)] [] (85, I17, J17, R17) 0 0))))) ∧ (¬ r16 = 0 → ow_AW ow_Y0 (ow_Z Q) M_Mo_follyLine (d + 1) 0 0 100 [(0, .ref 70), (1, .int (I 74 2)), (2, .int 1)] [] (85, I16, J16, R16) 0 0))))) ∧ (¬ r15 = 0 → ow_AW ow_Y0 (ow_Z Q) M_Mo_follyLine (d + 1) 0 0 100 [(0, .ref 70), (1, .int (I 74 2)), (2, .int 0)] [] (85, I15, J15, R15) 0 0))))))) ∧ (¬ (I 70 13) = 0 → Q none (85, I, J, R)))) : ow_AM M_Mo_follyLine (d + 1) [.ref 70] (85, I, J, R) Q := by
  refine ow_enter (by decide) (Nat.le_of_ble_eq_true rfl) ?_
  show ow_AW ow_Y0 (ow_Z Q) M_Mo_follyLine (d + 1) 0 0 0 [(0, .ref 70)] [] (85, I, J, R) 0 0
  refine ow_aload_n 0 rfl d_Mo_follyLine_0 ?_
  refine ow_gI 182 d_Mo_follyLine_1 rfl rfl (by decide) rfl (Or.inr rfl) ?_
  refine ow_if_eq (tgt := 8) d_Mo_follyLine_4 (by decide) (fun c => ?_) (fun c => ?_)
  · replace T := T.1 c
    refine ow_aload_n 0 rfl d_Mo_follyLine_8 ?_
    refine ow_gR (a := 74) 185 d_Mo_follyLine_9 rfl rfl (by decide) rfl ⟨rfl, hR 70 16 (by decide)⟩ ?_
    refine ow_iconst (v := 2) (by decide) d_Mo_follyLine_12 ?_
    refine ow_hiaload d_Mo_follyLine_13 (by decide) rfl rfl (show vp_in (2 : Int32) 146 by unfold vp_in; decide) ?_
    show ow_AW ow_Y0 (ow_Z Q) M_Mo_follyLine (d + 1) 0 0 14 [(0, .ref 70)] [.int (I 74 2)] (85, I, J, R) 0 0
    refine ow_istore_n (ls2 := [(1, .int (I 74 2)), (0, .ref 70)]) d_Mo_follyLine_14 (by decide) rfl ?_
    refine ow_aload_n 1 rfl d_Mo_follyLine_15 ?_
    refine ow_iload_n 0 rfl d_Mo_follyLine_16 ?_
    refine ow_callV (b := 70) (cq := 12) (As := [.int (I 74 2)]) (rest := []) (d2 := d) d_Mo_follyLine_17 l_Mo_212 v_Mo_newName (show 70 < 85 by decide) rfl (by decide) rfl (Nat.le_of_ble_eq_true rfl) (Nat.le_refl _) ⟨Nat.le_refl _, Nat.le_refl _⟩ (ow_mono T ?_)
    rintro r h' ⟨I14, J14, R14, rfl, rfl, hR14, T⟩
    show ow_AW ow_Y0 (ow_Z Q) M_Mo_follyLine (d + 1) 0 0 20 [(1, .int (I 74 2)), (0, .ref 70)] [] (85, I14, J14, R14) 0 0
    refine ow_aload_n 1 rfl d_Mo_follyLine_20 ?_
    refine ow_ldS (tx := "towe\x72") (i := 9) 28 d_Mo_follyLine_21 rfl ?_
    refine ow_callV (b := 70) (cq := 12) (As := [.ref (1000 + 9)]) (rest := []) (d2 := d) d_Mo_follyLine_23 l_Mo_108 v_Mo_isWord (show 70 < 85 by decide) rfl (by decide) rfl (Nat.le_of_ble_eq_true rfl) (Nat.le_refl _) ⟨Nat.le_refl _, Nat.le_refl _⟩ (ow_mono T ?_)
    rintro r h' ⟨r15, I15, J15, R15, rfl, rfl, hR15, T⟩
    show ow_AW ow_Y0 (ow_Z Q) M_Mo_follyLine (d + 1) 0 0 26 [(1, .int (I 74 2)), (0, .ref 70)] [.int r15] (85, I15, J15, R15) 0 0
    refine ow_if_eq (tgt := 33) d_Mo_follyLine_26 (by decide) (fun c => ?_) (fun c => ?_)
    · replace T := T.1 c
      refine ow_aload_n 1 rfl d_Mo_follyLine_33 ?_
      refine ow_ldS (tx := "arch") (i := 10) 29 d_Mo_follyLine_34 rfl ?_
      refine ow_callV (b := 70) (cq := 12) (As := [.ref (1000 + 10)]) (rest := []) (d2 := d) d_Mo_follyLine_36 l_Mo_108 v_Mo_isWord (show 70 < 85 by decide) rfl (by decide) rfl (Nat.le_of_ble_eq_true rfl) (Nat.le_refl _) ⟨Nat.le_refl _, Nat.le_refl _⟩ (ow_mono T ?_)
      rintro r h' ⟨r16, I16, J16, R16, rfl, rfl, hR16, T⟩
      show ow_AW ow_Y0 (ow_Z Q) M_Mo_follyLine (d + 1) 0 0 39 [(1, .int (I 74 2)), (0, .ref 70)] [.int r16] (85, I16, J16, R16) 0 0
      refine ow_if_eq (tgt := 46) d_Mo_follyLine_39 (by decide) (fun c => ?_) (fun c => ?_)
      · replace T := T.1 c
        refine ow_aload_n 1 rfl d_Mo_follyLine_46 ?_
        refine ow_ldS (tx := "obelisk") (i := 11) 30 d_Mo_follyLine_47 rfl ?_
        refine ow_callV (b := 70) (cq := 12) (As := [.ref (1000 + 11)]) (rest := []) (d2 := d) d_Mo_follyLine_49 l_Mo_108 v_Mo_isWord (show 70 < 85 by decide) rfl (by decide) rfl (Nat.le_of_ble_eq_true rfl) (Nat.le_refl _) ⟨Nat.le_refl _, Nat.le_refl _⟩ (ow_mono T ?_)
        rintro r h' ⟨r17, I17, J17, R17, rfl, rfl, hR17, T⟩
        show ow_AW ow_Y0 (ow_Z Q) M_Mo_follyLine (d + 1) 0 0 52 [(1, .int (I 74 2)), (0, .ref 70)] [.int r17] (85, I17, J17, R17) 0 0
        refine ow_if_eq (tgt := 59) d_Mo_follyLine_52 (by decide) (fun c => ?_) (fun c => ?_)
        · replace T := T.1 c
          refine ow_aload_n 1 rfl d_Mo_follyLine_59 ?_
          refine ow_ldS (tx := "pyramid") (i := 12) 31 d_Mo_follyLine_60 rfl ?_
          refine ow_callV (b := 70) (cq := 12) (As := [.ref (1000 + 12)]) (rest := []) (d2 := d) d_Mo_follyLine_62 l_Mo_108 v_Mo_isWord (show 70 < 85 by decide) rfl (by decide) rfl (Nat.le_of_ble_eq_true rfl) (Nat.le_refl _) ⟨Nat.le_refl _, Nat.le_refl _⟩ (ow_mono T ?_)
          rintro r h' ⟨r18, I18, J18, R18, rfl, rfl, hR18, T⟩
          show ow_AW ow_Y0 (ow_Z Q) M_Mo_follyLine (d + 1) 0 0 65 [(1, .int (I 74 2)), (0, .ref 70)] [.int r18] (85, I18, J18, R18) 0 0
          refine ow_if_eq (tgt := 72) d_Mo_follyLine_65 (by decide) (fun c => ?_) (fun c => ?_)
          · replace T := T.1 c
            refine ow_aload_n 1 rfl d_Mo_follyLine_72 ?_
            refine ow_ldS (tx := "grotto") (i := 13) 32 d_Mo_follyLine_73 rfl ?_
            refine ow_callV (b := 70) (cq := 12) (As := [.ref (1000 + 13)]) (rest := []) (d2 := d) d_Mo_follyLine_75 l_Mo_108 v_Mo_isWord (show 70 < 85 by decide) rfl (by decide) rfl (Nat.le_of_ble_eq_true rfl) (Nat.le_refl _) ⟨Nat.le_refl _, Nat.le_refl _⟩ (ow_mono T ?_)
            rintro r h' ⟨r19, I19, J19, R19, rfl, rfl, hR19, T⟩
            show ow_AW ow_Y0 (ow_Z Q) M_Mo_follyLine (d + 1) 0 0 78 [(1, .int (I 74 2)), (0, .ref 70)] [.int r19] (85, I19, J19, R19) 0 0
            refine ow_if_eq (tgt := 85) d_Mo_follyLine_78 (by decide) (fun c => ?_) (fun c => ?_)
            · replace T := T.1 c
              refine ow_iconst (v := (-1)) (by decide) d_Mo_follyLine_85 ?_
              refine ow_istore_n (ls2 := [(2, .int (-1)), (1, .int (I 74 2)), (0, .ref 70)]) d_Mo_follyLine_86 (by decide) rfl ?_
              refine ow_iload_n 0 rfl d_Mo_follyLine_87 ?_
              refine ow_if_ge (tgt := 100) d_Mo_follyLine_88 (by decide) (fun c => ?_) (fun c => ?_)
              · exact absurd c (by decide)
              · clear c
                refine ow_aload_n 2 rfl d_Mo_follyLine_91 ?_
                refine ow_iconst (v := 1) (by decide) d_Mo_follyLine_92 ?_
                refine ow_aload_n 2 rfl d_Mo_follyLine_93 ?_
                refine ow_gI 173 d_Mo_follyLine_94 rfl rfl (by decide) rfl (Or.inl rfl) ?_
                refine ow_callV (b := 70) (cq := 12) (As := [.int 1, .int (I19 70 4)]) (rest := []) (d2 := d) d_Mo_follyLine_97 l_Mo_118 v_Mo_wrong (show 70 < 85 by decide) rfl (by decide) rfl (Nat.le_of_ble_eq_true rfl) (Nat.le_refl _) ⟨Nat.le_refl _, Nat.le_refl _⟩ (ow_mono T ?_)
                rintro r h' ⟨I20, J20, R20, rfl, rfl, hR20, T⟩
                show ow_AW ow_Y0 (ow_Z Q) M_Mo_follyLine (d + 1) 0 0 100 [(2, .int (-1)), (1, .int (I 74 2)), (0, .ref 70)] [] (85, I20, J20, R20) 0 0
                refine ow_sub [2, 1, 0] rfl ?_
                exact T
            · replace T := T.2 c
              refine ow_iconst (v := 4) (by decide) d_Mo_follyLine_81 ?_
              refine ow_goto (tgt := 86) d_Mo_follyLine_82 (by decide) ?_
              refine ow_istore_n (ls2 := [(2, .int 4), (1, .int (I 74 2)), (0, .ref 70)]) d_Mo_follyLine_86 (by decide) rfl ?_
              refine ow_iload_n 0 rfl d_Mo_follyLine_87 ?_
              refine ow_if_ge (tgt := 100) d_Mo_follyLine_88 (by decide) (fun c => ?_) (fun c => ?_)
              · clear c
                refine ow_sub [2, 1, 0] rfl ?_
                exact T
              · exact absurd c (by decide)
          · replace T := T.2 c
            refine ow_iconst (v := 3) (by decide) d_Mo_follyLine_68 ?_
            refine ow_goto (tgt := 86) d_Mo_follyLine_69 (by decide) ?_
            refine ow_istore_n (ls2 := [(2, .int 3), (1, .int (I 74 2)), (0, .ref 70)]) d_Mo_follyLine_86 (by decide) rfl ?_
            refine ow_iload_n 0 rfl d_Mo_follyLine_87 ?_
            refine ow_if_ge (tgt := 100) d_Mo_follyLine_88 (by decide) (fun c => ?_) (fun c => ?_)
            · clear c
              refine ow_sub [2, 1, 0] rfl ?_
              exact T
            · exact absurd c (by decide)
        · replace T := T.2 c
          refine ow_iconst (v := 2) (by decide) d_Mo_follyLine_55 ?_
          refine ow_goto (tgt := 86) d_Mo_follyLine_56 (by decide) ?_
          refine ow_istore_n (ls2 := [(2, .int 2), (1, .int (I 74 2)), (0, .ref 70)]) d_Mo_follyLine_86 (by decide) rfl ?_
          refine ow_iload_n 0 rfl d_Mo_follyLine_87 ?_
          refine ow_if_ge (tgt := 100) d_Mo_follyLine_88 (by decide) (fun c => ?_) (fun c => ?_)
          · clear c
            refine ow_sub [2, 1, 0] rfl ?_
            exact T
          · exact absurd c (by decide)
      · replace T := T.2 c
        refine ow_iconst (v := 1) (by decide) d_Mo_follyLine_42 ?_
        refine ow_goto (tgt := 86) d_Mo_follyLine_43 (by decide) ?_
        refine ow_istore_n (ls2 := [(2, .int 1), (1, .int (I 74 2)), (0, .ref 70)]) d_Mo_follyLine_86 (by decide) rfl ?_
        refine ow_iload_n 0 rfl d_Mo_follyLine_87 ?_
        refine ow_if_ge (tgt := 100) d_Mo_follyLine_88 (by decide) (fun c => ?_) (fun c => ?_)
        · clear c
          refine ow_sub [2, 1, 0] rfl ?_
          exact T
        · exact absurd c (by decide)
    · replace T := T.2 c
      refine ow_iconst (v := 0) (by decide) d_Mo_follyLine_29 ?_
      refine ow_goto (tgt := 86) d_Mo_follyLine_30 (by decide) ?_
      refine ow_istore_n (ls2 := [(2, .int 0), (1, .int (I 74 2)), (0, .ref 70)]) d_Mo_follyLine_86 (by decide) rfl ?_
      refine ow_iload_n 0 rfl d_Mo_follyLine_87 ?_
      refine ow_if_ge (tgt := 100) d_Mo_follyLine_88 (by decide) (fun c => ?_) (fun c => ?_)
      · clear c
        refine ow_sub [2, 1, 0] rfl ?_
        exact T
      · exact absurd c (by decide)
  · replace T := T.2 c
    exact ow_vret d_Mo_follyLine_7 rfl T
set_option maxRecDepth 4000 in
theorem t_Mo_sendsLine_33 {d : Nat} {I : Nat → Nat → Int32} {J : Nat → Nat → Int64} {R : Nat → Nat → Option Nat} {Q : Option Value → ow_H → Prop}  {v1 : Int32}  (hR : ow_RF R) (T : (ow_AM M_Mo_pass d [.ref 70] (85, I, J, R) (fun r h' => ∃ (I3 : Nat → Nat → Int32) (J3 : Nat → Nat → Int64) (R3 : Nat → Nat → Option Nat), r = none ∧ h' = (85, I3, J3, R3) ∧ ow_RF R3 ∧ (ow_AM M_Mo_follyHere d [.ref 70] (85, I3, J3, R3) (fun r h' => ∃ (r4 : Int32) (I4 : Nat → Nat → Int32) (J4 : Nat → Nat → Int64) (R4 : Nat → Nat → Option Nat), r = some (.int r4) ∧ h' = (85, I4, J4, R4) ∧ ow_RF R4 ∧ ((¬ (I4 70 13) = 0 → ow_AW ow_Y0 (ow_Z Q) M_Mo_sendsLine (d + 1) 0 0 63 [(0, .ref 70), (1, .int v1), (2, .int r4)] [] (85, I4, J4, R4) 0 0) ∧ ((I4 70 13) = 0 → ((¬ r4 = v1 → ow_AW ow_Y0 (ow_Z Q) M_Mo_sendsLine (d + 1) 0 0 63 [(0, .ref 70), (1, .int v1), (2, .int r4)] [] (85, I4, J4, R4) 0 0) ∧ (r4 = v1 → (ow_AM M_Mo_wrong d [.ref 70, .int 3, .int (I4 70 4)] (85, I4, J4, R4) (fun r h' => ∃ (I5 : Nat → Nat → Int32) (J5 : Nat → Nat → Int64) (R5 : Nat → Nat → Option Nat), r = none ∧ h' = (85, I5, J5, R5) ∧ ow_RF R5 ∧ ow_AW ow_Y0 (ow_Z Q) M_Mo_sendsLine (d + 1) 0 0 63 [(0, .ref 70), (1, .int v1), (2, .int r4)] [] (85, I5, J5, R5) 0 0))))))))))) : ow_AW ow_Y0 (ow_Z Q) M_Mo_sendsLine (d + 1) 0 0 33 [(0, .ref 70), (1, .int v1)] [] (85, I, J, R) 0 0 := by
  refine ow_aload_n 0 rfl d_Mo_sendsLine_33 ?_
  refine ow_callV (b := 70) (cq := 12) (As := []) (rest := []) (d2 := d) d_Mo_sendsLine_34 l_Mo_176 v_Mo_pass (show 70 < 85 by decide) rfl (by decide) rfl (Nat.le_of_ble_eq_true rfl) (Nat.le_refl _) ⟨Nat.le_refl _, Nat.le_refl _⟩ (ow_mono T ?_)
  rintro r h' ⟨I3, J3, R3, rfl, rfl, hR3, T⟩
  show ow_AW ow_Y0 (ow_Z Q) M_Mo_sendsLine (d + 1) 0 0 37 [(0, .ref 70), (1, .int v1)] [] (85, I3, J3, R3) 0 0
  refine ow_aload_n 0 rfl d_Mo_sendsLine_37 ?_
  refine ow_callV (b := 70) (cq := 12) (As := []) (rest := []) (d2 := d) d_Mo_sendsLine_38 l_Mo_228 v_Mo_follyHere (show 70 < 85 by decide) rfl (by decide) rfl (Nat.le_of_ble_eq_true rfl) (Nat.le_refl _) ⟨Nat.le_refl _, Nat.le_refl _⟩ (ow_mono T ?_)
  rintro r h' ⟨r4, I4, J4, R4, rfl, rfl, hR4, T⟩
  show ow_AW ow_Y0 (ow_Z Q) M_Mo_sendsLine (d + 1) 0 0 41 [(0, .ref 70), (1, .int v1)] [.int r4] (85, I4, J4, R4) 0 0
  refine ow_istore_n (ls2 := [(2, .int r4), (0, .ref 70), (1, .int v1)]) d_Mo_sendsLine_41 (by decide) rfl ?_
  refine ow_aload_n 1 rfl d_Mo_sendsLine_42 ?_
  refine ow_gI 182 d_Mo_sendsLine_43 rfl rfl (by decide) rfl (Or.inr rfl) ?_
  refine ow_if_ne (tgt := 63) d_Mo_sendsLine_46 (by decide) (fun c => ?_) (fun c => ?_)
  · replace T := T.1 c
    refine ow_sub [1, 2, 0] rfl ?_
    exact T
  · replace T := T.2 c
    refine ow_iload_n 0 rfl d_Mo_sendsLine_49 ?_
    refine ow_iload_n 2 rfl d_Mo_sendsLine_50 ?_
    refine ow_icmp_ne (tgt := 63) d_Mo_sendsLine_51 (by decide) (fun c => ?_) (fun c => ?_)
    · replace T := T.1 c
      refine ow_sub [1, 2, 0] rfl ?_
      exact T
    · replace T := T.2 c
      refine ow_aload_n 1 rfl d_Mo_sendsLine_54 ?_
      refine ow_iconst (v := 3) (by decide) d_Mo_sendsLine_55 ?_
      refine ow_aload_n 1 rfl d_Mo_sendsLine_56 ?_
      refine ow_gI 173 d_Mo_sendsLine_57 rfl rfl (by decide) rfl (Or.inl rfl) ?_
      refine ow_callV (b := 70) (cq := 12) (As := [.int 3, .int (I4 70 4)]) (rest := []) (d2 := d) d_Mo_sendsLine_60 l_Mo_118 v_Mo_wrong (show 70 < 85 by decide) rfl (by decide) rfl (Nat.le_of_ble_eq_true rfl) (Nat.le_refl _) ⟨Nat.le_refl _, Nat.le_refl _⟩ (ow_mono T ?_)
      rintro r h' ⟨I5, J5, R5, rfl, rfl, hR5, T⟩
      show ow_AW ow_Y0 (ow_Z Q) M_Mo_sendsLine (d + 1) 0 0 63 [(2, .int r4), (0, .ref 70), (1, .int v1)] [] (85, I5, J5, R5) 0 0
      refine ow_sub [1, 2, 0] rfl ?_
      exact T
set_option maxRecDepth 4000 in
theorem t_Mo_sendsLine_63 {d : Nat} {I : Nat → Nat → Int32} {J : Nat → Nat → Int64} {R : Nat → Nat → Option Nat} {Q : Option Value → ow_H → Prop}  {v1 : Int32} {v2 : Int32}  (hR : ow_RF R) (T : (ow_AM M_Mo_pass d [.ref 70] (85, I, J, R) (fun r h' => ∃ (I6 : Nat → Nat → Int32) (J6 : Nat → Nat → Int64) (R6 : Nat → Nat → Option Nat), r = none ∧ h' = (85, I6, J6, R6) ∧ ow_RF R6 ∧ ((¬ (I6 70 13) = 0 → Q none (85, I6, J6, R6)) ∧ ((I6 70 13) = 0 → (vp_in (6 + v1) 14 ∧ (∀ (I7 : Nat → Nat → Int32), I7 = ow_u I6 76 ((6 + v1).toNatClampNeg) (v2 + 1) → Q none (85, I7, J6, R6)))))))) : ow_AW ow_Y0 (ow_Z Q) M_Mo_sendsLine (d + 1) 0 0 63 [(0, .ref 70), (1, .int v1), (2, .int v2)] [] (85, I, J, R) 0 0 := by
  refine ow_aload_n 0 rfl d_Mo_sendsLine_63 ?_
  refine ow_callV (b := 70) (cq := 12) (As := []) (rest := []) (d2 := d) d_Mo_sendsLine_64 l_Mo_176 v_Mo_pass (show 70 < 85 by decide) rfl (by decide) rfl (Nat.le_of_ble_eq_true rfl) (Nat.le_refl _) ⟨Nat.le_refl _, Nat.le_refl _⟩ (ow_mono T ?_)
  rintro r h' ⟨I6, J6, R6, rfl, rfl, hR6, T⟩
  show ow_AW ow_Y0 (ow_Z Q) M_Mo_sendsLine (d + 1) 0 0 67 [(0, .ref 70), (1, .int v1), (2, .int v2)] [] (85, I6, J6, R6) 0 0
  refine ow_aload_n 0 rfl d_Mo_sendsLine_67 ?_
  refine ow_gI 182 d_Mo_sendsLine_68 rfl rfl (by decide) rfl (Or.inr rfl) ?_
  refine ow_if_ne (tgt := 86) d_Mo_sendsLine_71 (by decide) (fun c => ?_) (fun c => ?_)
  · replace T := T.1 c
    exact ow_vret d_Mo_sendsLine_86 rfl T
  · replace T := T.2 c
    refine ow_aload_n 0 rfl d_Mo_sendsLine_74 ?_
    refine ow_gR (a := 76) 187 d_Mo_sendsLine_75 rfl rfl (by decide) rfl ⟨rfl, hR6 70 18 (by decide)⟩ ?_
    refine ow_bipush (v := 6) (by decide) d_Mo_sendsLine_78 ?_
    refine ow_iload_n 1 rfl d_Mo_sendsLine_80 ?_
    refine ow_iadd d_Mo_sendsLine_81 ?_
    refine ow_iload_n 2 rfl d_Mo_sendsLine_82 ?_
    refine ow_iconst (v := 1) (by decide) d_Mo_sendsLine_83 ?_
    refine ow_iadd d_Mo_sendsLine_84 ?_
    obtain ⟨cI, T⟩ := T
    refine ow_hiastore d_Mo_sendsLine_85 (by decide) rfl rfl cI ?_
    obtain ⟨I7, eI7⟩ : ∃ uu, uu = ow_u I6 76 ((6 + v1).toNatClampNeg) (v2 + 1) := ⟨_, rfl⟩
    replace T := T I7 eI7
    rw [← eI7]
    exact ow_vret d_Mo_sendsLine_86 rfl T
set_option maxRecDepth 4000 in
theorem t_Mo_sendsLine {d : Nat} {I : Nat → Nat → Int32} {J : Nat → Nat → Int64} {R : Nat → Nat → Option Nat} {Q : Option Value → ow_H → Prop}   (hR : ow_RF R) (T : (ow_AM M_Mo_follyHere d [.ref 70] (85, I, J, R) (fun r h' => ∃ (r8 : Int32) (I8 : Nat → Nat → Int32) (J8 : Nat → Nat → Int64) (R8 : Nat → Nat → Option Nat), r = some (.int r8) ∧ h' = (85, I8, J8, R8) ∧ ow_RF R8 ∧ ((¬ (I8 70 13) = 0 → ow_AW ow_Y0 (ow_Z Q) M_Mo_sendsLine (d + 1) 0 0 33 [(0, .ref 70), (1, .int r8)] [] (85, I8, J8, R8) 0 0) ∧ ((I8 70 13) = 0 → (vp_in (6 + r8) 14 ∧ (((I8 76 (6 + r8).toNatClampNeg) ≤ 0 → ow_AW ow_Y0 (ow_Z Q) M_Mo_sendsLine (d + 1) 0 0 33 [(0, .ref 70), (1, .int r8)] [] (85, I8, J8, R8) 0 0) ∧ (¬ (I8 76 (6 + r8).toNatClampNeg) ≤ 0 → (ow_AM M_Mo_wrong d [.ref 70, .int 3, .int (I8 70 4)] (85, I8, J8, R8) (fun r h' => ∃ (I9 : Nat → Nat → Int32) (J9 : Nat → Nat → Int64) (R9 : Nat → Nat → Option Nat), r = none ∧ h' = (85, I9, J9, R9) ∧ ow_RF R9 ∧ ow_AW ow_Y0 (ow_Z Q) M_Mo_sendsLine (d + 1) 0 0 33 [(0, .ref 70), (1, .int r8)] [] (85, I9, J9, R9) 0 0)))))))))) : ow_AM M_Mo_sendsLine (d + 1) [.ref 70] (85, I, J, R) Q := by
  refine ow_enter (by decide) (Nat.le_of_ble_eq_true rfl) ?_
  show ow_AW ow_Y0 (ow_Z Q) M_Mo_sendsLine (d + 1) 0 0 0 [(0, .ref 70)] [] (85, I, J, R) 0 0
  refine ow_aload_n 0 rfl d_Mo_sendsLine_0 ?_
  refine ow_callV (b := 70) (cq := 12) (As := []) (rest := []) (d2 := d) d_Mo_sendsLine_1 l_Mo_228 v_Mo_follyHere (show 70 < 85 by decide) rfl (by decide) rfl (Nat.le_of_ble_eq_true rfl) (Nat.le_refl _) ⟨Nat.le_refl _, Nat.le_refl _⟩ (ow_mono T ?_)
  rintro r h' ⟨r8, I8, J8, R8, rfl, rfl, hR8, T⟩
  show ow_AW ow_Y0 (ow_Z Q) M_Mo_sendsLine (d + 1) 0 0 4 [(0, .ref 70)] [.int r8] (85, I8, J8, R8) 0 0
  refine ow_istore_n (ls2 := [(1, .int r8), (0, .ref 70)]) d_Mo_sendsLine_4 (by decide) rfl ?_
  refine ow_aload_n 1 rfl d_Mo_sendsLine_5 ?_
  refine ow_gI 182 d_Mo_sendsLine_6 rfl rfl (by decide) rfl (Or.inr rfl) ?_
  refine ow_if_ne (tgt := 33) d_Mo_sendsLine_9 (by decide) (fun c => ?_) (fun c => ?_)
  · replace T := T.1 c
    refine ow_sub [1, 0] rfl ?_
    exact T
  · replace T := T.2 c
    refine ow_aload_n 1 rfl d_Mo_sendsLine_12 ?_
    refine ow_gR (a := 76) 187 d_Mo_sendsLine_13 rfl rfl (by decide) rfl ⟨rfl, hR8 70 18 (by decide)⟩ ?_
    refine ow_bipush (v := 6) (by decide) d_Mo_sendsLine_16 ?_
    refine ow_iload_n 0 rfl d_Mo_sendsLine_18 ?_
    refine ow_iadd d_Mo_sendsLine_19 ?_
    obtain ⟨cI, T⟩ := T
    refine ow_hiaload d_Mo_sendsLine_20 (by decide) rfl rfl cI ?_
    refine ow_if_le (tgt := 33) d_Mo_sendsLine_21 (by decide) (fun c => ?_) (fun c => ?_)
    · replace T := T.1 c
      refine ow_sub [1, 0] rfl ?_
      exact T
    · replace T := T.2 c
      refine ow_aload_n 1 rfl d_Mo_sendsLine_24 ?_
      refine ow_iconst (v := 3) (by decide) d_Mo_sendsLine_25 ?_
      refine ow_aload_n 1 rfl d_Mo_sendsLine_26 ?_
      refine ow_gI 173 d_Mo_sendsLine_27 rfl rfl (by decide) rfl (Or.inl rfl) ?_
      refine ow_callV (b := 70) (cq := 12) (As := [.int 3, .int (I8 70 4)]) (rest := []) (d2 := d) d_Mo_sendsLine_30 l_Mo_118 v_Mo_wrong (show 70 < 85 by decide) rfl (by decide) rfl (Nat.le_of_ble_eq_true rfl) (Nat.le_refl _) ⟨Nat.le_refl _, Nat.le_refl _⟩ (ow_mono T ?_)
      rintro r h' ⟨I9, J9, R9, rfl, rfl, hR9, T⟩
      show ow_AW ow_Y0 (ow_Z Q) M_Mo_sendsLine (d + 1) 0 0 33 [(1, .int r8), (0, .ref 70)] [] (85, I9, J9, R9) 0 0
      refine ow_sub [1, 0] rfl ?_
      exact T
set_option maxRecDepth 4000 in
theorem t_Mo_hermitLine {d : Nat} {I : Nat → Nat → Int32} {J : Nat → Nat → Int64} {R : Nat → Nat → Option Nat} {Q : Option Value → ow_H → Prop}   (hR : ow_RF R) (T : (ow_AM M_Mo_follyHere d [.ref 70] (85, I, J, R) (fun r h' => ∃ (r10 : Int32) (I10 : Nat → Nat → Int32) (J10 : Nat → Nat → Int64) (R10 : Nat → Nat → Option Nat), r = some (.int r10) ∧ h' = (85, I10, J10, R10) ∧ ow_RF R10 ∧ ((¬ (I10 70 13) = 0 → (ow_AM M_Mo_pass d [.ref 70] (85, I10, J10, R10) (fun r h' => ∃ (I11 : Nat → Nat → Int32) (J11 : Nat → Nat → Int64) (R11 : Nat → Nat → Option Nat), r = none ∧ h' = (85, I11, J11, R11) ∧ ow_RF R11 ∧ ((¬ (I11 70 13) = 0 → Q none (85, I11, J11, R11)) ∧ ((I11 70 13) = 0 → (∀ (I12 : Nat → Nat → Int32), I12 = ow_u I11 76 12 ((I11 76 12) ||| ((1 : Int32) <<< (r10 &&& 31))) → Q none (85, I12, J11, R11))))))) ∧ ((I10 70 13) = 0 → (ow_AM M_Mo_hasBit d [.int (I10 76 12), .int r10] (85, I10, J10, R10) (fun r h' => ∃ (r13 : Int32) (I13 : Nat → Nat → Int32) (J13 : Nat → Nat → Int64) (R13 : Nat → Nat → Option Nat), r = some (.int r13) ∧ h' = (85, I13, J13, R13) ∧ ow_RF R13 ∧ ((r13 = 0 → (ow_AM M_Mo_pass d [.ref 70] (85, I13, J13, R13) (fun r h' => ∃ (I14 : Nat → Nat → Int32) (J14 : Nat → Nat → Int64) (R14 : Nat → Nat → Option Nat), r = none ∧ h' = (85, I14, J14, R14) ∧ ow_RF R14 ∧ ((¬ (I14 70 13) = 0 → Q none (85, I14, J14, R14)) ∧ ((I14 70 13) = 0 → (∀ (I15 : Nat → Nat → Int32), I15 = ow_u I14 76 12 ((I14 76 12) ||| ((1 : Int32) <<< (r10 &&& 31))) → Q none (85, I15, J14, R14))))))) ∧ (¬ r13 = 0 → (ow_AM M_Mo_wrong d [.ref 70, .int 3, .int (I13 70 4)] (85, I13, J13, R13) (fun r h' => ∃ (I16 : Nat → Nat → Int32) (J16 : Nat → Nat → Int64) (R16 : Nat → Nat → Option Nat), r = none ∧ h' = (85, I16, J16, R16) ∧ ow_RF R16 ∧ (ow_AM M_Mo_pass d [.ref 70] (85, I16, J16, R16) (fun r h' => ∃ (I17 : Nat → Nat → Int32) (J17 : Nat → Nat → Int64) (R17 : Nat → Nat → Option Nat), r = none ∧ h' = (85, I17, J17, R17) ∧ ow_RF R17 ∧ ((¬ (I17 70 13) = 0 → Q none (85, I17, J17, R17)) ∧ ((I17 70 13) = 0 → (∀ (I18 : Nat → Nat → Int32), I18 = ow_u I17 76 12 ((I17 76 12) ||| ((1 : Int32) <<< (r10 &&& 31))) → Q none (85, I18, J17, R17))))))))))))))))) : ow_AM M_Mo_hermitLine (d + 1) [.ref 70] (85, I, J, R) Q := by
  refine ow_enter (by decide) (Nat.le_of_ble_eq_true rfl) ?_
  show ow_AW ow_Y0 (ow_Z Q) M_Mo_hermitLine (d + 1) 0 0 0 [(0, .ref 70)] [] (85, I, J, R) 0 0
  refine ow_aload_n 0 rfl d_Mo_hermitLine_0 ?_
  refine ow_callV (b := 70) (cq := 12) (As := []) (rest := []) (d2 := d) d_Mo_hermitLine_1 l_Mo_228 v_Mo_follyHere (show 70 < 85 by decide) rfl (by decide) rfl (Nat.le_of_ble_eq_true rfl) (Nat.le_refl _) ⟨Nat.le_refl _, Nat.le_refl _⟩ (ow_mono T ?_)
  rintro r h' ⟨r10, I10, J10, R10, rfl, rfl, hR10, T⟩
  show ow_AW ow_Y0 (ow_Z Q) M_Mo_hermitLine (d + 1) 0 0 4 [(0, .ref 70)] [.int r10] (85, I10, J10, R10) 0 0
  refine ow_istore_n (ls2 := [(1, .int r10), (0, .ref 70)]) d_Mo_hermitLine_4 (by decide) rfl ?_
  refine ow_aload_n 1 rfl d_Mo_hermitLine_5 ?_
  refine ow_gI 182 d_Mo_hermitLine_6 rfl rfl (by decide) rfl (Or.inr rfl) ?_
  refine ow_if_ne (tgt := 35) d_Mo_hermitLine_9 (by decide) (fun c => ?_) (fun c => ?_)
  · replace T := T.1 c
    refine ow_aload_n 1 rfl d_Mo_hermitLine_35 ?_
    refine ow_callV (b := 70) (cq := 12) (As := []) (rest := []) (d2 := d) d_Mo_hermitLine_36 l_Mo_176 v_Mo_pass (show 70 < 85 by decide) rfl (by decide) rfl (Nat.le_of_ble_eq_true rfl) (Nat.le_refl _) ⟨Nat.le_refl _, Nat.le_refl _⟩ (ow_mono T ?_)
    rintro r h' ⟨I11, J11, R11, rfl, rfl, hR11, T⟩
    show ow_AW ow_Y0 (ow_Z Q) M_Mo_hermitLine (d + 1) 0 0 39 [(1, .int r10), (0, .ref 70)] [] (85, I11, J11, R11) 0 0
    refine ow_aload_n 1 rfl d_Mo_hermitLine_39 ?_
    refine ow_gI 182 d_Mo_hermitLine_40 rfl rfl (by decide) rfl (Or.inr rfl) ?_
    refine ow_if_ne (tgt := 59) d_Mo_hermitLine_43 (by decide) (fun c => ?_) (fun c => ?_)
    · replace T := T.1 c
      exact ow_vret d_Mo_hermitLine_59 rfl T
    · replace T := T.2 c
      refine ow_aload_n 1 rfl d_Mo_hermitLine_46 ?_
      refine ow_gR (a := 76) 187 d_Mo_hermitLine_47 rfl rfl (by decide) rfl ⟨rfl, hR11 70 18 (by decide)⟩ ?_
      refine ow_bipush (v := 12) (by decide) d_Mo_hermitLine_50 ?_
      refine ow_dup2_11 rfl rfl d_Mo_hermitLine_52 ?_
      refine ow_hiaload d_Mo_hermitLine_53 (by decide) rfl rfl (show vp_in (12 : Int32) 14 by unfold vp_in; decide) ?_
      show ow_AW ow_Y0 (ow_Z Q) M_Mo_hermitLine (d + 1) 0 0 54 [(1, .int r10), (0, .ref 70)] [.int (I11 76 12), .int 12, .ref 76] (85, I11, J11, R11) 0 0
      refine ow_iconst (v := 1) (by decide) d_Mo_hermitLine_54 ?_
      refine ow_iload_n 0 rfl d_Mo_hermitLine_55 ?_
      refine ow_ishl d_Mo_hermitLine_56 ?_
      refine ow_ior d_Mo_hermitLine_57 ?_
      refine ow_hiastore d_Mo_hermitLine_58 (by decide) rfl rfl (show vp_in (12 : Int32) 14 by unfold vp_in; decide) ?_
      obtain ⟨I12, eI12⟩ : ∃ uu, uu = ow_u I11 76 12 ((I11 76 12) ||| ((1 : Int32) <<< (r10 &&& 31))) := ⟨_, rfl⟩
      replace T := T I12 eI12
      show ow_AW ow_Y0 (ow_Z Q) M_Mo_hermitLine (d + 1) 0 0 59 [(1, .int r10), (0, .ref 70)] [] (85, (ow_u I11 76 12 ((I11 76 12) ||| ((1 : Int32) <<< (r10 &&& 31)))), J11, R11) 0 0
      rw [← eI12]
      exact ow_vret d_Mo_hermitLine_59 rfl T
  · replace T := T.2 c
    refine ow_aload_n 1 rfl d_Mo_hermitLine_12 ?_
    refine ow_gR (a := 76) 187 d_Mo_hermitLine_13 rfl rfl (by decide) rfl ⟨rfl, hR10 70 18 (by decide)⟩ ?_
    refine ow_bipush (v := 12) (by decide) d_Mo_hermitLine_16 ?_
    refine ow_hiaload d_Mo_hermitLine_18 (by decide) rfl rfl (show vp_in (12 : Int32) 14 by unfold vp_in; decide) ?_
    show ow_AW ow_Y0 (ow_Z Q) M_Mo_hermitLine (d + 1) 0 0 19 [(1, .int r10), (0, .ref 70)] [.int (I10 76 12)] (85, I10, J10, R10) 0 0
    refine ow_iload_n 0 rfl d_Mo_hermitLine_19 ?_
    refine ow_callS (As := [.int (I10 76 12), .int r10]) (rest := []) (d2 := d) d_Mo_hermitLine_20 l_Mo_231 v_Mo_hasBit (Nat.le_of_ble_eq_true rfl) (Nat.le_refl _) ⟨Nat.le_refl _, Nat.le_refl _⟩ (ow_mono T ?_)
    rintro r h' ⟨r13, I13, J13, R13, rfl, rfl, hR13, T⟩
    show ow_AW ow_Y0 (ow_Z Q) M_Mo_hermitLine (d + 1) 0 0 23 [(1, .int r10), (0, .ref 70)] [.int r13] (85, I13, J13, R13) 0 0
    refine ow_if_eq (tgt := 35) d_Mo_hermitLine_23 (by decide) (fun c => ?_) (fun c => ?_)
    · replace T := T.1 c
      refine ow_aload_n 1 rfl d_Mo_hermitLine_35 ?_
      refine ow_callV (b := 70) (cq := 12) (As := []) (rest := []) (d2 := d) d_Mo_hermitLine_36 l_Mo_176 v_Mo_pass (show 70 < 85 by decide) rfl (by decide) rfl (Nat.le_of_ble_eq_true rfl) (Nat.le_refl _) ⟨Nat.le_refl _, Nat.le_refl _⟩ (ow_mono T ?_)
      rintro r h' ⟨I14, J14, R14, rfl, rfl, hR14, T⟩
      show ow_AW ow_Y0 (ow_Z Q) M_Mo_hermitLine (d + 1) 0 0 39 [(1, .int r10), (0, .ref 70)] [] (85, I14, J14, R14) 0 0
      refine ow_aload_n 1 rfl d_Mo_hermitLine_39 ?_
      refine ow_gI 182 d_Mo_hermitLine_40 rfl rfl (by decide) rfl (Or.inr rfl) ?_
      refine ow_if_ne (tgt := 59) d_Mo_hermitLine_43 (by decide) (fun c => ?_) (fun c => ?_)
      · replace T := T.1 c
        exact ow_vret d_Mo_hermitLine_59 rfl T
      · replace T := T.2 c
        refine ow_aload_n 1 rfl d_Mo_hermitLine_46 ?_
        refine ow_gR (a := 76) 187 d_Mo_hermitLine_47 rfl rfl (by decide) rfl ⟨rfl, hR14 70 18 (by decide)⟩ ?_
        refine ow_bipush (v := 12) (by decide) d_Mo_hermitLine_50 ?_
        refine ow_dup2_11 rfl rfl d_Mo_hermitLine_52 ?_
        refine ow_hiaload d_Mo_hermitLine_53 (by decide) rfl rfl (show vp_in (12 : Int32) 14 by unfold vp_in; decide) ?_
        show ow_AW ow_Y0 (ow_Z Q) M_Mo_hermitLine (d + 1) 0 0 54 [(1, .int r10), (0, .ref 70)] [.int (I14 76 12), .int 12, .ref 76] (85, I14, J14, R14) 0 0
        refine ow_iconst (v := 1) (by decide) d_Mo_hermitLine_54 ?_
        refine ow_iload_n 0 rfl d_Mo_hermitLine_55 ?_
        refine ow_ishl d_Mo_hermitLine_56 ?_
        refine ow_ior d_Mo_hermitLine_57 ?_
        refine ow_hiastore d_Mo_hermitLine_58 (by decide) rfl rfl (show vp_in (12 : Int32) 14 by unfold vp_in; decide) ?_
        obtain ⟨I15, eI15⟩ : ∃ uu, uu = ow_u I14 76 12 ((I14 76 12) ||| ((1 : Int32) <<< (r10 &&& 31))) := ⟨_, rfl⟩
        replace T := T I15 eI15
        show ow_AW ow_Y0 (ow_Z Q) M_Mo_hermitLine (d + 1) 0 0 59 [(1, .int r10), (0, .ref 70)] [] (85, (ow_u I14 76 12 ((I14 76 12) ||| ((1 : Int32) <<< (r10 &&& 31)))), J14, R14) 0 0
        rw [← eI15]
        exact ow_vret d_Mo_hermitLine_59 rfl T
    · replace T := T.2 c
      refine ow_aload_n 1 rfl d_Mo_hermitLine_26 ?_
      refine ow_iconst (v := 3) (by decide) d_Mo_hermitLine_27 ?_
      refine ow_aload_n 1 rfl d_Mo_hermitLine_28 ?_
      refine ow_gI 173 d_Mo_hermitLine_29 rfl rfl (by decide) rfl (Or.inl rfl) ?_
      refine ow_callV (b := 70) (cq := 12) (As := [.int 3, .int (I13 70 4)]) (rest := []) (d2 := d) d_Mo_hermitLine_32 l_Mo_118 v_Mo_wrong (show 70 < 85 by decide) rfl (by decide) rfl (Nat.le_of_ble_eq_true rfl) (Nat.le_refl _) ⟨Nat.le_refl _, Nat.le_refl _⟩ (ow_mono T ?_)
      rintro r h' ⟨I16, J16, R16, rfl, rfl, hR16, T⟩
      show ow_AW ow_Y0 (ow_Z Q) M_Mo_hermitLine (d + 1) 0 0 35 [(1, .int r10), (0, .ref 70)] [] (85, I16, J16, R16) 0 0
      refine ow_aload_n 1 rfl d_Mo_hermitLine_35 ?_
      refine ow_callV (b := 70) (cq := 12) (As := []) (rest := []) (d2 := d) d_Mo_hermitLine_36 l_Mo_176 v_Mo_pass (show 70 < 85 by decide) rfl (by decide) rfl (Nat.le_of_ble_eq_true rfl) (Nat.le_refl _) ⟨Nat.le_refl _, Nat.le_refl _⟩ (ow_mono T ?_)
      rintro r h' ⟨I17, J17, R17, rfl, rfl, hR17, T⟩
      show ow_AW ow_Y0 (ow_Z Q) M_Mo_hermitLine (d + 1) 0 0 39 [(1, .int r10), (0, .ref 70)] [] (85, I17, J17, R17) 0 0
      refine ow_aload_n 1 rfl d_Mo_hermitLine_39 ?_
      refine ow_gI 182 d_Mo_hermitLine_40 rfl rfl (by decide) rfl (Or.inr rfl) ?_
      refine ow_if_ne (tgt := 59) d_Mo_hermitLine_43 (by decide) (fun c => ?_) (fun c => ?_)
      · replace T := T.1 c
        exact ow_vret d_Mo_hermitLine_59 rfl T
      · replace T := T.2 c
        refine ow_aload_n 1 rfl d_Mo_hermitLine_46 ?_
        refine ow_gR (a := 76) 187 d_Mo_hermitLine_47 rfl rfl (by decide) rfl ⟨rfl, hR17 70 18 (by decide)⟩ ?_
        refine ow_bipush (v := 12) (by decide) d_Mo_hermitLine_50 ?_
        refine ow_dup2_11 rfl rfl d_Mo_hermitLine_52 ?_
        refine ow_hiaload d_Mo_hermitLine_53 (by decide) rfl rfl (show vp_in (12 : Int32) 14 by unfold vp_in; decide) ?_
        show ow_AW ow_Y0 (ow_Z Q) M_Mo_hermitLine (d + 1) 0 0 54 [(1, .int r10), (0, .ref 70)] [.int (I17 76 12), .int 12, .ref 76] (85, I17, J17, R17) 0 0
        refine ow_iconst (v := 1) (by decide) d_Mo_hermitLine_54 ?_
        refine ow_iload_n 0 rfl d_Mo_hermitLine_55 ?_
        refine ow_ishl d_Mo_hermitLine_56 ?_
        refine ow_ior d_Mo_hermitLine_57 ?_
        refine ow_hiastore d_Mo_hermitLine_58 (by decide) rfl rfl (show vp_in (12 : Int32) 14 by unfold vp_in; decide) ?_
        obtain ⟨I18, eI18⟩ : ∃ uu, uu = ow_u I17 76 12 ((I17 76 12) ||| ((1 : Int32) <<< (r10 &&& 31))) := ⟨_, rfl⟩
        replace T := T I18 eI18
        show ow_AW ow_Y0 (ow_Z Q) M_Mo_hermitLine (d + 1) 0 0 59 [(1, .int r10), (0, .ref 70)] [] (85, (ow_u I17 76 12 ((I17 76 12) ||| ((1 : Int32) <<< (r10 &&& 31)))), J17, R17) 0 0
        rw [← eI18]
        exact ow_vret d_Mo_hermitLine_59 rfl T
set_option maxRecDepth 4000 in
theorem t_Mo_estateLine {d : Nat} {I : Nat → Nat → Int32} {J : Nat → Nat → Int64} {R : Nat → Nat → Option Nat} {Q : Option Value → ow_H → Prop}   (hR : ow_RF R) (T : (((I 70 13) = 0 → (ow_AM M_Mo_newName d [.ref 70, .int (6 + (I 74 3))] (85, I, J, R) (fun r h' => ∃ (I8 : Nat → Nat → Int32) (J8 : Nat → Nat → Int64) (R8 : Nat → Nat → Option Nat), r = none ∧ h' = (85, I8, J8, R8) ∧ ow_RF R8 ∧ (ow_AM M_Mo_follyHere d [.ref 70] (85, I8, J8, R8) (fun r h' => ∃ (r9 : Int32) (I9 : Nat → Nat → Int32) (J9 : Nat → Nat → Int64) (R9 : Nat → Nat → Option Nat), r = some (.int r9) ∧ h' = (85, I9, J9, R9) ∧ ow_RF R9 ∧ (vp_in (19 + (2 * (I 74 3))) 146 ∧ (∀ (I10 : Nat → Nat → Int32), I10 = ow_u I9 74 ((19 + (2 * (I 74 3))).toNatClampNeg) r9 → (ow_AM M_Mo_pass d [.ref 70] (85, I10, J9, R9) (fun r h' => ∃ (I11 : Nat → Nat → Int32) (J11 : Nat → Nat → Int64) (R11 : Nat → Nat → Option Nat), r = none ∧ h' = (85, I11, J11, R11) ∧ ow_RF R11 ∧ (ow_AM M_Mo_after d [.ref 70, .ref (1000 + 15), .int 0, .int 99] (85, I11, J11, R11) (fun r h' => ∃ (r12 : Int32) (I12 : Nat → Nat → Int32) (J12 : Nat → Nat → Int64) (R12 : Nat → Nat → Option Nat), r = some (.int r12) ∧ h' = (85, I12, J12, R12) ∧ ow_RF R12 ∧ (vp_in ((19 + (2 * (I 74 3))) + 1) 146 ∧ (∀ (I13 : Nat → Nat → Int32), I13 = ow_u I12 74 (((19 + (2 * (I 74 3))) + 1).toNatClampNeg) r12 → ((¬ (I13 70 13) = 0 → Q none (85, I13, J12, R12)) ∧ ((I13 70 13) = 0 → (∀ (I14 : Nat → Nat → Int32), I14 = ow_u I13 74 3 ((I13 74 3) + 1) → Q none (85, I14, J12, R12))))))))))))))))) ∧ (¬ (I 70 13) = 0 → Q none (85, I, J, R)))) : ow_AM M_Mo_estateLine (d + 1) [.ref 70] (85, I, J, R) Q := by
  refine ow_enter (by decide) (Nat.le_of_ble_eq_true rfl) ?_
  show ow_AW ow_Y0 (ow_Z Q) M_Mo_estateLine (d + 1) 0 0 0 [(0, .ref 70)] [] (85, I, J, R) 0 0
  refine ow_aload_n 0 rfl d_Mo_estateLine_0 ?_
  refine ow_gI 182 d_Mo_estateLine_1 rfl rfl (by decide) rfl (Or.inr rfl) ?_
  refine ow_if_eq (tgt := 8) d_Mo_estateLine_4 (by decide) (fun c => ?_) (fun c => ?_)
  · replace T := T.1 c
    refine ow_bipush (v := 19) (by decide) d_Mo_estateLine_8 ?_
    refine ow_iconst (v := 2) (by decide) d_Mo_estateLine_10 ?_
    refine ow_aload_n 0 rfl d_Mo_estateLine_11 ?_
    refine ow_gR (a := 74) 185 d_Mo_estateLine_12 rfl rfl (by decide) rfl ⟨rfl, hR 70 16 (by decide)⟩ ?_
    refine ow_iconst (v := 3) (by decide) d_Mo_estateLine_15 ?_
    refine ow_hiaload d_Mo_estateLine_16 (by decide) rfl rfl (show vp_in (3 : Int32) 146 by unfold vp_in; decide) ?_
    show ow_AW ow_Y0 (ow_Z Q) M_Mo_estateLine (d + 1) 0 0 17 [(0, .ref 70)] [.int (I 74 3), .int 2, .int 19] (85, I, J, R) 0 0
    refine ow_imul d_Mo_estateLine_17 ?_
    refine ow_iadd d_Mo_estateLine_18 ?_
    refine ow_istore_n (ls2 := [(1, .int (19 + (2 * (I 74 3)))), (0, .ref 70)]) d_Mo_estateLine_19 (by decide) rfl ?_
    refine ow_aload_n 1 rfl d_Mo_estateLine_20 ?_
    refine ow_bipush (v := 6) (by decide) d_Mo_estateLine_21 ?_
    refine ow_aload_n 1 rfl d_Mo_estateLine_23 ?_
    refine ow_gR (a := 74) 185 d_Mo_estateLine_24 rfl rfl (by decide) rfl ⟨rfl, hR 70 16 (by decide)⟩ ?_
    refine ow_iconst (v := 3) (by decide) d_Mo_estateLine_27 ?_
    refine ow_hiaload d_Mo_estateLine_28 (by decide) rfl rfl (show vp_in (3 : Int32) 146 by unfold vp_in; decide) ?_
    show ow_AW ow_Y0 (ow_Z Q) M_Mo_estateLine (d + 1) 0 0 29 [(1, .int (19 + (2 * (I 74 3)))), (0, .ref 70)] [.int (I 74 3), .int 6, .ref 70] (85, I, J, R) 0 0
    refine ow_iadd d_Mo_estateLine_29 ?_
    refine ow_callV (b := 70) (cq := 12) (As := [.int (6 + (I 74 3))]) (rest := []) (d2 := d) d_Mo_estateLine_30 l_Mo_212 v_Mo_newName (show 70 < 85 by decide) rfl (by decide) rfl (Nat.le_of_ble_eq_true rfl) (Nat.le_refl _) ⟨Nat.le_refl _, Nat.le_refl _⟩ (ow_mono T ?_)
    rintro r h' ⟨I8, J8, R8, rfl, rfl, hR8, T⟩
    show ow_AW ow_Y0 (ow_Z Q) M_Mo_estateLine (d + 1) 0 0 33 [(1, .int (19 + (2 * (I 74 3)))), (0, .ref 70)] [] (85, I8, J8, R8) 0 0
    refine ow_aload_n 1 rfl d_Mo_estateLine_33 ?_
    refine ow_gR (a := 74) 185 d_Mo_estateLine_34 rfl rfl (by decide) rfl ⟨rfl, hR8 70 16 (by decide)⟩ ?_
    refine ow_iload_n 0 rfl d_Mo_estateLine_37 ?_
    refine ow_aload_n 1 rfl d_Mo_estateLine_38 ?_
    refine ow_callV (b := 70) (cq := 12) (As := []) (rest := [.int (19 + (2 * (I 74 3))), .ref 74]) (d2 := d) d_Mo_estateLine_39 l_Mo_228 v_Mo_follyHere (show 70 < 85 by decide) rfl (by decide) rfl (Nat.le_of_ble_eq_true rfl) (Nat.le_refl _) ⟨Nat.le_refl _, Nat.le_refl _⟩ (ow_mono T ?_)
    rintro r h' ⟨r9, I9, J9, R9, rfl, rfl, hR9, T⟩
    show ow_AW ow_Y0 (ow_Z Q) M_Mo_estateLine (d + 1) 0 0 42 [(1, .int (19 + (2 * (I 74 3)))), (0, .ref 70)] [.int r9, .int (19 + (2 * (I 74 3))), .ref 74] (85, I9, J9, R9) 0 0
    obtain ⟨cI, T⟩ := T
    refine ow_hiastore d_Mo_estateLine_42 (by decide) rfl rfl cI ?_
    obtain ⟨I10, eI10⟩ : ∃ uu, uu = ow_u I9 74 ((19 + (2 * (I 74 3))).toNatClampNeg) r9 := ⟨_, rfl⟩
    replace T := T I10 eI10
    rw [← eI10]
    refine ow_aload_n 1 rfl d_Mo_estateLine_43 ?_
    refine ow_callV (b := 70) (cq := 12) (As := []) (rest := []) (d2 := d) d_Mo_estateLine_44 l_Mo_176 v_Mo_pass (show 70 < 85 by decide) rfl (by decide) rfl (Nat.le_of_ble_eq_true rfl) (Nat.le_refl _) ⟨Nat.le_refl _, Nat.le_refl _⟩ (ow_mono T ?_)
    rintro r h' ⟨I11, J11, R11, rfl, rfl, hR11, T⟩
    show ow_AW ow_Y0 (ow_Z Q) M_Mo_estateLine (d + 1) 0 0 47 [(1, .int (19 + (2 * (I 74 3)))), (0, .ref 70)] [] (85, I11, J11, R11) 0 0
    refine ow_aload_n 1 rfl d_Mo_estateLine_47 ?_
    refine ow_gR (a := 74) 185 d_Mo_estateLine_48 rfl rfl (by decide) rfl ⟨rfl, hR11 70 16 (by decide)⟩ ?_
    refine ow_iload_n 0 rfl d_Mo_estateLine_51 ?_
    refine ow_iconst (v := 1) (by decide) d_Mo_estateLine_52 ?_
    refine ow_iadd d_Mo_estateLine_53 ?_
    refine ow_aload_n 1 rfl d_Mo_estateLine_54 ?_
    refine ow_ldS (tx := "debt") (i := 15) 34 d_Mo_estateLine_55 rfl ?_
    refine ow_iconst (v := 0) (by decide) d_Mo_estateLine_57 ?_
    refine ow_bipush (v := 99) (by decide) d_Mo_estateLine_58 ?_
    refine ow_callV (b := 70) (cq := 12) (As := [.ref (1000 + 15), .int 0, .int 99]) (rest := [.int ((19 + (2 * (I 74 3))) + 1), .ref 74]) (d2 := d) d_Mo_estateLine_60 l_Mo_206 v_Mo_after (show 70 < 85 by decide) rfl (by decide) rfl (Nat.le_of_ble_eq_true rfl) (Nat.le_refl _) ⟨Nat.le_refl _, Nat.le_refl _⟩ (ow_mono T ?_)
    rintro r h' ⟨r12, I12, J12, R12, rfl, rfl, hR12, T⟩
    show ow_AW ow_Y0 (ow_Z Q) M_Mo_estateLine (d + 1) 0 0 63 [(1, .int (19 + (2 * (I 74 3)))), (0, .ref 70)] [.int r12, .int ((19 + (2 * (I 74 3))) + 1), .ref 74] (85, I12, J12, R12) 0 0
    obtain ⟨cI, T⟩ := T
    refine ow_hiastore d_Mo_estateLine_63 (by decide) rfl rfl cI ?_
    obtain ⟨I13, eI13⟩ : ∃ uu, uu = ow_u I12 74 (((19 + (2 * (I 74 3))) + 1).toNatClampNeg) r12 := ⟨_, rfl⟩
    replace T := T I13 eI13
    rw [← eI13]
    refine ow_aload_n 1 rfl d_Mo_estateLine_64 ?_
    refine ow_gI 182 d_Mo_estateLine_65 rfl rfl (by decide) rfl (Or.inr rfl) ?_
    refine ow_if_ne (tgt := 81) d_Mo_estateLine_68 (by decide) (fun c => ?_) (fun c => ?_)
    · replace T := T.1 c
      exact ow_vret d_Mo_estateLine_81 rfl T
    · replace T := T.2 c
      refine ow_aload_n 1 rfl d_Mo_estateLine_71 ?_
      refine ow_gR (a := 74) 185 d_Mo_estateLine_72 rfl rfl (by decide) rfl ⟨rfl, hR12 70 16 (by decide)⟩ ?_
      refine ow_iconst (v := 3) (by decide) d_Mo_estateLine_75 ?_
      refine ow_dup2_11 rfl rfl d_Mo_estateLine_76 ?_
      refine ow_hiaload d_Mo_estateLine_77 (by decide) rfl rfl (show vp_in (3 : Int32) 146 by unfold vp_in; decide) ?_
      show ow_AW ow_Y0 (ow_Z Q) M_Mo_estateLine (d + 1) 0 0 78 [(1, .int (19 + (2 * (I 74 3)))), (0, .ref 70)] [.int (I13 74 3), .int 3, .ref 74] (85, I13, J12, R12) 0 0
      refine ow_iconst (v := 1) (by decide) d_Mo_estateLine_78 ?_
      refine ow_iadd d_Mo_estateLine_79 ?_
      refine ow_hiastore d_Mo_estateLine_80 (by decide) rfl rfl (show vp_in (3 : Int32) 146 by unfold vp_in; decide) ?_
      obtain ⟨I14, eI14⟩ : ∃ uu, uu = ow_u I13 74 3 ((I13 74 3) + 1) := ⟨_, rfl⟩
      replace T := T I14 eI14
      show ow_AW ow_Y0 (ow_Z Q) M_Mo_estateLine (d + 1) 0 0 81 [(1, .int (19 + (2 * (I 74 3)))), (0, .ref 70)] [] (85, (ow_u I13 74 3 ((I13 74 3) + 1)), J12, R12) 0 0
      rw [← eI14]
      exact ow_vret d_Mo_estateLine_81 rfl T
  · replace T := T.2 c
    exact ow_vret d_Mo_estateLine_7 rfl T
