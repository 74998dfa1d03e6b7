theorem dRef_cover_0 : decode cRef_cover 0 = .ok (.sipush 300, 3) := by decide +kernel
theorem dRef_cover_3 : decode cRef_cover 3 = .ok (.iload_n 1, 1) := by decide +kernel
theorem dRef_cover_4 : decode cRef_cover 4 = .ok (.imul, 1) := by decide +kernel
theorem dRef_cover_5 : decode cRef_cover 5 = .ok (.aload_n 0, 1) := by decide +kernel
theorem dRef_cover_6 : decode cRef_cover 6 = .ok (.getfield 50, 3) := by decide +kernel
theorem dRef_cover_9 : decode cRef_cover 9 = .ok (.iload_n 1, 1) := by decide +kernel
theorem dRef_cover_10 : decode cRef_cover 10 = .ok (.iaload, 1) := by decide +kernel
theorem dRef_cover_11 : decode cRef_cover 11 = .ok (.iadd, 1) := by decide +kernel
theorem dRef_cover_12 : decode cRef_cover 12 = .ok (.istore_n 3, 1) := by decide +kernel
theorem dRef_cover_13 : decode cRef_cover 13 = .ok (.iconst 0, 1) := by decide +kernel
theorem dRef_cover_14 : decode cRef_cover 14 = .ok (.istore 4, 2) := by decide +kernel
theorem dRef_cover_16 : decode cRef_cover 16 = .ok (.sipush 300, 3) := by decide +kernel
theorem dRef_cover_19 : decode cRef_cover 19 = .ok (.iload_n 1, 1) := by decide +kernel
theorem dRef_cover_20 : decode cRef_cover 20 = .ok (.imul, 1) := by decide +kernel
theorem dRef_cover_21 : decode cRef_cover 21 = .ok (.aload_n 0, 1) := by decide +kernel
theorem dRef_cover_22 : decode cRef_cover 22 = .ok (.getfield 53, 3) := by decide +kernel
theorem dRef_cover_25 : decode cRef_cover 25 = .ok (.iload_n 1, 1) := by decide +kernel
theorem dRef_cover_26 : decode cRef_cover 26 = .ok (.iaload, 1) := by decide +kernel
theorem dRef_cover_27 : decode cRef_cover 27 = .ok (.iadd, 1) := by decide +kernel
theorem dRef_cover_28 : decode cRef_cover 28 = .ok (.iload_n 3, 1) := by decide +kernel
theorem dRef_cover_29 : decode cRef_cover 29 = .ok (.if_icmp .ge 233, 3) := by decide +kernel
theorem dRef_cover_32 : decode cRef_cover 32 = .ok (.iload 4, 2) := by decide +kernel
theorem dRef_cover_34 : decode cRef_cover 34 = .ok (.ifCond .ne 228, 3) := by decide +kernel
theorem dRef_cover_37 : decode cRef_cover 37 = .ok (.sipush 300, 3) := by decide +kernel
theorem dRef_cover_40 : decode cRef_cover 40 = .ok (.iload_n 1, 1) := by decide +kernel
theorem dRef_cover_41 : decode cRef_cover 41 = .ok (.imul, 1) := by decide +kernel
theorem dRef_cover_42 : decode cRef_cover 42 = .ok (.aload_n 0, 1) := by decide +kernel
theorem dRef_cover_43 : decode cRef_cover 43 = .ok (.getfield 53, 3) := by decide +kernel
theorem dRef_cover_46 : decode cRef_cover 46 = .ok (.iload_n 1, 1) := by decide +kernel
theorem dRef_cover_47 : decode cRef_cover 47 = .ok (.iaload, 1) := by decide +kernel
theorem dRef_cover_48 : decode cRef_cover 48 = .ok (.iadd, 1) := by decide +kernel
theorem dRef_cover_49 : decode cRef_cover 49 = .ok (.istore 5, 2) := by decide +kernel
theorem dRef_cover_51 : decode cRef_cover 51 = .ok (.iconst 0, 1) := by decide +kernel
theorem dRef_cover_52 : decode cRef_cover 52 = .ok (.istore 6, 2) := by decide +kernel
theorem dRef_cover_54 : decode cRef_cover 54 = .ok (.iconst 0, 1) := by decide +kernel
theorem dRef_cover_55 : decode cRef_cover 55 = .ok (.istore 7, 2) := by decide +kernel
theorem dRef_cover_57 : decode cRef_cover 57 = .ok (.iload 7, 2) := by decide +kernel
theorem dRef_cover_59 : decode cRef_cover 59 = .ok (.aload_n 0, 1) := by decide +kernel
theorem dRef_cover_60 : decode cRef_cover 60 = .ok (.getfield 111, 3) := by decide +kernel
theorem dRef_cover_63 : decode cRef_cover 63 = .ok (.if_icmp .ge 115, 3) := by decide +kernel
theorem dRef_cover_66 : decode cRef_cover 66 = .ok (.iconst 0, 1) := by decide +kernel
theorem dRef_cover_67 : decode cRef_cover 67 = .ok (.istore 8, 2) := by decide +kernel
theorem dRef_cover_69 : decode cRef_cover 69 = .ok (.iload 8, 2) := by decide +kernel
theorem dRef_cover_71 : decode cRef_cover 71 = .ok (.iconst 3, 1) := by decide +kernel
theorem dRef_cover_72 : decode cRef_cover 72 = .ok (.if_icmp .ge 100, 3) := by decide +kernel
theorem dRef_cover_75 : decode cRef_cover 75 = .ok (.aload_n 0, 1) := by decide +kernel
theorem dRef_cover_76 : decode cRef_cover 76 = .ok (.iload 7, 2) := by decide +kernel
theorem dRef_cover_78 : decode cRef_cover 78 = .ok (.invokevirtual 139, 3) := by decide +kernel
theorem dRef_cover_81 : decode cRef_cover 81 = .ok (.ifCond .eq 91, 3) := by decide +kernel
theorem dRef_cover_84 : decode cRef_cover 84 = .ok (.aload_n 0, 1) := by decide +kernel
theorem dRef_cover_85 : decode cRef_cover 85 = .ok (.aload_n 0, 1) := by decide +kernel
theorem dRef_cover_86 : decode cRef_cover 86 = .ok (.getfield 47, 3) := by decide +kernel
theorem dRef_cover_89 : decode cRef_cover 89 = .ok (.iload 5, 2) := by decide +kernel
theorem dRef_cover_91 : decode cRef_cover 91 = .ok (.iload_n 3, 1) := by decide +kernel
theorem dRef_cover_92 : decode cRef_cover 92 = .ok (.iload 7, 2) := by decide +kernel
theorem dRef_cover_94 : decode cRef_cover 94 = .ok (.iload 8, 2) := by decide +kernel
theorem dRef_cover_96 : decode cRef_cover 96 = .ok (.invokevirtual 142, 3) := by decide +kernel
theorem dRef_cover_99 : decode cRef_cover 99 = .ok (.istore 9, 2) := by decide +kernel
theorem dRef_cover_101 : decode cRef_cover 101 = .ok (.aload_n 0, 1) := by decide +kernel
theorem dRef_cover_102 : decode cRef_cover 102 = .ok (.iload 7, 2) := by decide +kernel
theorem dRef_cover_104 : decode cRef_cover 104 = .ok (.iload 8, 2) := by decide +kernel
theorem dRef_cover_106 : decode cRef_cover 106 = .ok (.invokevirtual 132, 3) := by decide +kernel
theorem dRef_cover_109 : decode cRef_cover 109 = .ok (.istore 10, 2) := by decide +kernel
theorem dRef_cover_111 : decode cRef_cover 111 = .ok (.iload 9, 2) := by decide +kernel
theorem dRef_cover_113 : decode cRef_cover 113 = .ok (.iload 10, 2) := by decide +kernel
theorem dRef_cover_115 : decode cRef_cover 115 = .ok (.if_icmp .ne 15, 3) := by decide +kernel
theorem dRef_cover_118 : decode cRef_cover 118 = .ok (.iload 9, 2) := by decide +kernel
theorem dRef_cover_120 : decode cRef_cover 120 = .ok (.iload 6, 2) := by decide +kernel
theorem dRef_cover_122 : decode cRef_cover 122 = .ok (.if_icmp .le 8, 3) := by decide +kernel
theorem dRef_cover_125 : decode cRef_cover 125 = .ok (.iload 9, 2) := by decide +kernel
theorem dRef_cover_127 : decode cRef_cover 127 = .ok (.goto 5, 3) := by decide +kernel
theorem dRef_cover_130 : decode cRef_cover 130 = .ok (.iload 6, 2) := by decide +kernel
theorem dRef_cover_132 : decode cRef_cover 132 = .ok (.istore 6, 2) := by decide +kernel
theorem dRef_cover_134 : decode cRef_cover 134 = .ok (.iload 4, 2) := by decide +kernel
theorem dRef_cover_136 : decode cRef_cover 136 = .ok (.ifCond .ne 23, 3) := by decide +kernel
theorem dRef_cover_139 : decode cRef_cover 139 = .ok (.iload_n 2, 1) := by decide +kernel
theorem dRef_cover_140 : decode cRef_cover 140 = .ok (.ifCond .ne 23, 3) := by decide +kernel
theorem dRef_cover_143 : decode cRef_cover 143 = .ok (.iload 9, 2) := by decide +kernel
theorem dRef_cover_145 : decode cRef_cover 145 = .ok (.iload 10, 2) := by decide +kernel
theorem dRef_cover_147 : decode cRef_cover 147 = .ok (.if_icmp .ge 16, 3) := by decide +kernel
theorem dRef_cover_150 : decode cRef_cover 150 = .ok (.iload 5, 2) := by decide +kernel
theorem dRef_cover_152 : decode cRef_cover 152 = .ok (.iload 9, 2) := by decide +kernel
theorem dRef_cover_154 : decode cRef_cover 154 = .ok (.iadd, 1) := by decide +kernel
theorem dRef_cover_155 : decode cRef_cover 155 = .ok (.iload_n 3, 1) := by decide +kernel
theorem dRef_cover_156 : decode cRef_cover 156 = .ok (.if_icmp .ne 7, 3) := by decide +kernel
theorem dRef_cover_159 : decode cRef_cover 159 = .ok (.iconst 1, 1) := by decide +kernel
theorem dRef_cover_160 : decode cRef_cover 160 = .ok (.goto 4, 3) := by decide +kernel
theorem dRef_cover_163 : decode cRef_cover 163 = .ok (.iconst 0, 1) := by decide +kernel
theorem dRef_cover_164 : decode cRef_cover 164 = .ok (.istore 4, 2) := by decide +kernel
theorem dRef_cover_166 : decode cRef_cover 166 = .ok (.iinc 8 1, 3) := by decide +kernel
theorem dRef_cover_169 : decode cRef_cover 169 = .ok (.goto (-100), 3) := by decide +kernel
theorem dRef_cover_172 : decode cRef_cover 172 = .ok (.iinc 7 1, 3) := by decide +kernel
theorem dRef_cover_175 : decode cRef_cover 175 = .ok (.goto (-118), 3) := by decide +kernel
theorem dRef_cover_178 : decode cRef_cover 178 = .ok (.iload 4, 2) := by decide +kernel
theorem dRef_cover_180 : decode cRef_cover 180 = .ok (.ifCond .eq 6, 3) := by decide +kernel
theorem dRef_cover_183 : decode cRef_cover 183 = .ok (.goto (-167), 3) := by decide +kernel
theorem dRef_cover_186 : decode cRef_cover 186 = .ok (.iload 6, 2) := by decide +kernel
theorem dRef_cover_188 : decode cRef_cover 188 = .ok (.ifCond .ne 28, 3) := by decide +kernel
theorem dRef_cover_191 : decode cRef_cover 191 = .ok (.aload_n 0, 1) := by decide +kernel
theorem dRef_cover_192 : decode cRef_cover 192 = .ok (.iload_n 1, 1) := by decide +kernel
theorem dRef_cover_193 : decode cRef_cover 193 = .ok (.aload_n 0, 1) := by decide +kernel
theorem dRef_cover_194 : decode cRef_cover 194 = .ok (.getfield 47, 3) := by decide +kernel
theorem dRef_cover_197 : decode cRef_cover 197 = .ok (.iload 5, 2) := by decide +kernel
theorem dRef_cover_199 : decode cRef_cover 199 = .ok (.iaload, 1) := by decide +kernel
theorem dRef_cover_200 : decode cRef_cover 200 = .ok (.invokevirtual 146, 3) := by decide +kernel
theorem dRef_cover_203 : decode cRef_cover 203 = .ok (.aload_n 0, 1) := by decide +kernel
theorem dRef_cover_204 : decode cRef_cover 204 = .ok (.getfield 53, 3) := by decide +kernel
theorem dRef_cover_207 : decode cRef_cover 207 = .ok (.iload_n 1, 1) := by decide +kernel
theorem dRef_cover_208 : decode cRef_cover 208 = .ok (.dup2, 1) := by decide +kernel
theorem dRef_cover_209 : decode cRef_cover 209 = .ok (.iaload, 1) := by decide +kernel
theorem dRef_cover_210 : decode cRef_cover 210 = .ok (.iconst 1, 1) := by decide +kernel
theorem dRef_cover_211 : decode cRef_cover 211 = .ok (.iadd, 1) := by decide +kernel
theorem dRef_cover_212 : decode cRef_cover 212 = .ok (.iastore, 1) := by decide +kernel
theorem dRef_cover_213 : decode cRef_cover 213 = .ok (.goto 46, 3) := by decide +kernel
theorem dRef_cover_216 : decode cRef_cover 216 = .ok (.iconst 0, 1) := by decide +kernel
theorem dRef_cover_217 : decode cRef_cover 217 = .ok (.istore 7, 2) := by decide +kernel
theorem dRef_cover_219 : decode cRef_cover 219 = .ok (.iload 7, 2) := by decide +kernel
theorem dRef_cover_221 : decode cRef_cover 221 = .ok (.iconst 3, 1) := by decide +kernel
theorem dRef_cover_222 : decode cRef_cover 222 = .ok (.if_icmp .ge 16, 3) := by decide +kernel
theorem dRef_cover_225 : decode cRef_cover 225 = .ok (.aload_n 0, 1) := by decide +kernel
theorem dRef_cover_226 : decode cRef_cover 226 = .ok (.iload_n 1, 1) := by decide +kernel
theorem dRef_cover_227 : decode cRef_cover 227 = .ok (.bipush 42, 2) := by decide +kernel
theorem dRef_cover_229 : decode cRef_cover 229 = .ok (.invokevirtual 146, 3) := by decide +kernel
theorem dRef_cover_232 : decode cRef_cover 232 = .ok (.iinc 7 1, 3) := by decide +kernel
theorem dRef_cover_235 : decode cRef_cover 235 = .ok (.goto (-16), 3) := by decide +kernel
theorem dRef_cover_238 : decode cRef_cover 238 = .ok (.aload_n 0, 1) := by decide +kernel
theorem dRef_cover_239 : decode cRef_cover 239 = .ok (.getfield 62, 3) := by decide +kernel
theorem dRef_cover_242 : decode cRef_cover 242 = .ok (.iload_n 1, 1) := by decide +kernel
theorem dRef_cover_243 : decode cRef_cover 243 = .ok (.dup2, 1) := by decide +kernel
theorem dRef_cover_244 : decode cRef_cover 244 = .ok (.iaload, 1) := by decide +kernel
theorem dRef_cover_245 : decode cRef_cover 245 = .ok (.iconst 1, 1) := by decide +kernel
theorem dRef_cover_246 : decode cRef_cover 246 = .ok (.iadd, 1) := by decide +kernel
theorem dRef_cover_247 : decode cRef_cover 247 = .ok (.iastore, 1) := by decide +kernel
theorem dRef_cover_248 : decode cRef_cover 248 = .ok (.aload_n 0, 1) := by decide +kernel
theorem dRef_cover_249 : decode cRef_cover 249 = .ok (.getfield 53, 3) := by decide +kernel
theorem dRef_cover_252 : decode cRef_cover 252 = .ok (.iload_n 1, 1) := by decide +kernel
theorem dRef_cover_253 : decode cRef_cover 253 = .ok (.dup2, 1) := by decide +kernel
theorem dRef_cover_254 : decode cRef_cover 254 = .ok (.iaload, 1) := by decide +kernel
theorem dRef_cover_255 : decode cRef_cover 255 = .ok (.iload 6, 2) := by decide +kernel
theorem dRef_cover_257 : decode cRef_cover 257 = .ok (.iadd, 1) := by decide +kernel
theorem dRef_cover_258 : decode cRef_cover 258 = .ok (.iastore, 1) := by decide +kernel
theorem dRef_cover_259 : decode cRef_cover 259 = .ok (.goto (-243), 3) := by decide +kernel
theorem dRef_cover_262 : decode cRef_cover 262 = .ok (.return_, 1) := by decide +kernel
theorem dRef_log_0 : decode cRef_log 0 = .ok (.aload_n 0, 1) := by decide +kernel
theorem dRef_log_1 : decode cRef_log 1 = .ok (.iconst 0, 1) := by decide +kernel
theorem dRef_log_2 : decode cRef_log 2 = .ok (.putfield 90, 3) := by decide +kernel
theorem dRef_log_5 : decode cRef_log 5 = .ok (.aload_n 0, 1) := by decide +kernel
theorem dRef_log_6 : decode cRef_log 6 = .ok (.getfield 99, 3) := by decide +kernel
theorem dRef_log_9 : decode cRef_log 9 = .ok (.istore_n 2, 1) := by decide +kernel
theorem dRef_log_10 : decode cRef_log 10 = .ok (.aload_n 0, 1) := by decide +kernel
theorem dRef_log_11 : decode cRef_log 11 = .ok (.iconst 0, 1) := by decide +kernel
theorem dRef_log_12 : decode cRef_log 12 = .ok (.putfield 99, 3) := by decide +kernel
theorem dRef_log_15 : decode cRef_log 15 = .ok (.aload_n 0, 1) := by decide +kernel
theorem dRef_log_16 : decode cRef_log 16 = .ok (.iload_n 1, 1) := by decide +kernel
theorem dRef_log_17 : decode cRef_log 17 = .ok (.invokevirtual 118, 3) := by decide +kernel
theorem dRef_log_20 : decode cRef_log 20 = .ok (.ifCond .eq 26, 3) := by decide +kernel
theorem dRef_log_23 : decode cRef_log 23 = .ok (.aload_n 0, 1) := by decide +kernel
theorem dRef_log_24 : decode cRef_log 24 = .ok (.getfield 65, 3) := by decide +kernel
theorem dRef_log_27 : decode cRef_log 27 = .ok (.iload_n 1, 1) := by decide +kernel
theorem dRef_log_28 : decode cRef_log 28 = .ok (.baload, 1) := by decide +kernel
theorem dRef_log_29 : decode cRef_log 29 = .ok (.ifCond .ne 17, 3) := by decide +kernel
theorem dRef_log_32 : decode cRef_log 32 = .ok (.aload_n 0, 1) := by decide +kernel
theorem dRef_log_33 : decode cRef_log 33 = .ok (.getfield 50, 3) := by decide +kernel
theorem dRef_log_36 : decode cRef_log 36 = .ok (.iload_n 1, 1) := by decide +kernel
theorem dRef_log_37 : decode cRef_log 37 = .ok (.iaload, 1) := by decide +kernel
theorem dRef_log_38 : decode cRef_log 38 = .ok (.iload_n 2, 1) := by decide +kernel
theorem dRef_log_39 : decode cRef_log 39 = .ok (.iadd, 1) := by decide +kernel
theorem dRef_log_40 : decode cRef_log 40 = .ok (.sipush 300, 3) := by decide +kernel
theorem dRef_log_43 : decode cRef_log 43 = .ok (.if_icmp .le 5, 3) := by decide +kernel
theorem dRef_log_46 : decode cRef_log 46 = .ok (.iconst (-1), 1) := by decide +kernel
theorem dRef_log_47 : decode cRef_log 47 = .ok (.ireturn, 1) := by decide +kernel
theorem dRef_log_48 : decode cRef_log 48 = .ok (.iconst 0, 1) := by decide +kernel
theorem dRef_log_49 : decode cRef_log 49 = .ok (.istore_n 3, 1) := by decide +kernel
theorem dRef_log_50 : decode cRef_log 50 = .ok (.iload_n 3, 1) := by decide +kernel
theorem dRef_log_51 : decode cRef_log 51 = .ok (.iload_n 2, 1) := by decide +kernel
theorem dRef_log_52 : decode cRef_log 52 = .ok (.if_icmp .ge 48, 3) := by decide +kernel
theorem dRef_log_55 : decode cRef_log 55 = .ok (.aload_n 0, 1) := by decide +kernel
theorem dRef_log_56 : decode cRef_log 56 = .ok (.getfield 47, 3) := by decide +kernel
theorem dRef_log_59 : decode cRef_log 59 = .ok (.sipush 300, 3) := by decide +kernel
theorem dRef_log_62 : decode cRef_log 62 = .ok (.iload_n 1, 1) := by decide +kernel
theorem dRef_log_63 : decode cRef_log 63 = .ok (.imul, 1) := by decide +kernel
theorem dRef_log_64 : decode cRef_log 64 = .ok (.aload_n 0, 1) := by decide +kernel
theorem dRef_log_65 : decode cRef_log 65 = .ok (.getfield 50, 3) := by decide +kernel
theorem dRef_log_68 : decode cRef_log 68 = .ok (.iload_n 1, 1) := by decide +kernel
theorem dRef_log_69 : decode cRef_log 69 = .ok (.iaload, 1) := by decide +kernel
theorem dRef_log_70 : decode cRef_log 70 = .ok (.iadd, 1) := by decide +kernel
theorem dRef_log_71 : decode cRef_log 71 = .ok (.aload_n 0, 1) := by decide +kernel
theorem dRef_log_72 : decode cRef_log 72 = .ok (.getfield 41, 3) := by decide +kernel
theorem dRef_log_75 : decode cRef_log 75 = .ok (.iload_n 3, 1) := by decide +kernel
theorem dRef_log_76 : decode cRef_log 76 = .ok (.iaload, 1) := by decide +kernel
theorem dRef_log_77 : decode cRef_log 77 = .ok (.iastore, 1) := by decide +kernel
theorem dRef_log_78 : decode cRef_log 78 = .ok (.aload_n 0, 1) := by decide +kernel
theorem dRef_log_79 : decode cRef_log 79 = .ok (.getfield 50, 3) := by decide +kernel
theorem dRef_log_82 : decode cRef_log 82 = .ok (.iload_n 1, 1) := by decide +kernel
theorem dRef_log_83 : decode cRef_log 83 = .ok (.dup2, 1) := by decide +kernel
theorem dRef_log_84 : decode cRef_log 84 = .ok (.iaload, 1) := by decide +kernel
theorem dRef_log_85 : decode cRef_log 85 = .ok (.iconst 1, 1) := by decide +kernel
theorem dRef_log_86 : decode cRef_log 86 = .ok (.iadd, 1) := by decide +kernel
theorem dRef_log_87 : decode cRef_log 87 = .ok (.iastore, 1) := by decide +kernel
theorem dRef_log_88 : decode cRef_log 88 = .ok (.aload_n 0, 1) := by decide +kernel
theorem dRef_log_89 : decode cRef_log 89 = .ok (.iload_n 1, 1) := by decide +kernel
theorem dRef_log_90 : decode cRef_log 90 = .ok (.iconst 0, 1) := by decide +kernel
theorem dRef_log_91 : decode cRef_log 91 = .ok (.invokevirtual 150, 3) := by decide +kernel
theorem dRef_log_94 : decode cRef_log 94 = .ok (.iinc 3 1, 3) := by decide +kernel
theorem dRef_log_97 : decode cRef_log 97 = .ok (.goto (-47), 3) := by decide +kernel
theorem dRef_log_100 : decode cRef_log 100 = .ok (.iload_n 2, 1) := by decide +kernel
theorem dRef_log_101 : decode cRef_log 101 = .ok (.ireturn, 1) := by decide +kernel
theorem dRef_close_0 : decode cRef_close 0 = .ok (.aload_n 0, 1) := by decide +kernel
theorem dRef_close_1 : decode cRef_close 1 = .ok (.iconst 0, 1) := by decide +kernel
theorem dRef_close_2 : decode cRef_close 2 = .ok (.putfield 90, 3) := by decide +kernel
theorem dRef_close_5 : decode cRef_close 5 = .ok (.aload_n 0, 1) := by decide +kernel
theorem dRef_close_6 : decode cRef_close 6 = .ok (.iload_n 1, 1) := by decide +kernel
theorem dRef_close_7 : decode cRef_close 7 = .ok (.invokevirtual 118, 3) := by decide +kernel
theorem dRef_close_10 : decode cRef_close 10 = .ok (.ifCond .eq 12, 3) := by decide +kernel
theorem dRef_close_13 : decode cRef_close 13 = .ok (.aload_n 0, 1) := by decide +kernel
theorem dRef_close_14 : decode cRef_close 14 = .ok (.getfield 65, 3) := by decide +kernel
theorem dRef_close_17 : decode cRef_close 17 = .ok (.iload_n 1, 1) := by decide +kernel
theorem dRef_close_18 : decode cRef_close 18 = .ok (.baload, 1) := by decide +kernel
theorem dRef_close_19 : decode cRef_close 19 = .ok (.ifCond .eq 5, 3) := by decide +kernel
theorem dRef_close_22 : decode cRef_close 22 = .ok (.iconst (-1), 1) := by decide +kernel
theorem dRef_close_23 : decode cRef_close 23 = .ok (.ireturn, 1) := by decide +kernel
theorem dRef_close_24 : decode cRef_close 24 = .ok (.aload_n 0, 1) := by decide +kernel
theorem dRef_close_25 : decode cRef_close 25 = .ok (.getfield 65, 3) := by decide +kernel
theorem dRef_close_28 : decode cRef_close 28 = .ok (.iload_n 1, 1) := by decide +kernel
theorem dRef_close_29 : decode cRef_close 29 = .ok (.iconst 1, 1) := by decide +kernel
theorem dRef_close_30 : decode cRef_close 30 = .ok (.bastore, 1) := by decide +kernel
theorem dRef_close_31 : decode cRef_close 31 = .ok (.aload_n 0, 1) := by decide +kernel
theorem dRef_close_32 : decode cRef_close 32 = .ok (.iload_n 1, 1) := by decide +kernel
theorem dRef_close_33 : decode cRef_close 33 = .ok (.iconst 1, 1) := by decide +kernel
theorem dRef_close_34 : decode cRef_close 34 = .ok (.invokevirtual 150, 3) := by decide +kernel
theorem dRef_close_37 : decode cRef_close 37 = .ok (.aload_n 0, 1) := by decide +kernel
theorem dRef_close_38 : decode cRef_close 38 = .ok (.getfield 59, 3) := by decide +kernel
theorem dRef_close_41 : decode cRef_close 41 = .ok (.iload_n 1, 1) := by decide +kernel
theorem dRef_close_42 : decode cRef_close 42 = .ok (.iaload, 1) := by decide +kernel
theorem dRef_close_43 : decode cRef_close 43 = .ok (.ireturn, 1) := by decide +kernel
def fRef_cover_L219 (n : Nat) (k16 : Nat → Int32 → Int32 → Int32 → Int32 → gS → Option (gS)) : Nat → Nat → Int32 → Int32 → Int32 → Int32 → Int32 → Int32 → gS → Option (gS)
  | 0, _, _, _, _, _, _, _, _ => none
  | k + 1, a0b, i1b, i2b, i3b, i4b, i6b, i7b, z =>
    if 3 ≤ i7b then (
    (g_fR z a0b 9 25).bind fun r_26 =>
    r_26.bind fun a_27 =>
    (g_ldI z .int a_27 i1b).bind fun v_28 =>
    (g_stI z .int a_27 i1b (v_28 + 1)).bind fun z_29 =>
    (g_fR z_29 a0b 9 22).bind fun r_30 =>
    r_30.bind fun a_31 =>
    (g_ldI z_29 .int a_31 i1b).bind fun v_32 =>
    (g_stI z_29 .int a_31 i1b (v_32 + i6b)).bind fun z_33 =>
    k16 a0b i1b i2b i3b i4b z_33)
    else (
    (g_is z a0b 9).bind fun _ =>
    (fRef_tell n a0b i1b 42 z).bind fun z_35 =>
    fRef_cover_L219 n k16 k a0b i1b i2b i3b i4b i6b (i7b + 1) z_35)
set_option maxHeartbeats 4000000 in
set_option maxRecDepth 100000 in
theorem bRef_cover_219 {p : Program} {l : Launch} {e : Env} {s : State} {m : MethodId} {args : Array Value} {below : List Frame} {meth : Method} {c : Code} {D : va_G} {A : Nat → Prop} (C : g_C p s m meth c args cRef_cover 11 none "SecretRowsModel" gW D vwCl gNN gOO A) (n : Nat) {z' : gS}
    {k16 : Nat → Int32 → Int32 → Int32 → Int32 → gS → Option (gS)} (hk16 : ∀ (a0b : Nat) (i1b : Int32) (i2b : Int32) (i3b : Int32) (i4b : Int32) (z : gS) (H : Heap) (locs : List Loc) (ls : Array Slot), k16 a0b i1b i2b i3b i4b z = some z' → g_W D vwCl A z s H → va_S A s.heap H locs → lv_has ls 11 [(0, .ref a0b), (1, .int i1b), (2, .int i2b), (3, .int i3b), (4, .int i4b)] → W p l e (headSpec wsRef_cover ({ frames := 3, cells := 0, slots := 0, locals := 69 })).room s m args below meth c H locs 0 0 (MQ below (g_Qv D vwCl A z') args s 0 0 A) (F0 m 16 ls [])) : ∀ k : Nat, ∀ (a0b : Nat) (i1b : Int32) (i2b : Int32) (i3b : Int32) (i4b : Int32) (i6b : Int32) (i7b : Int32) (z : gS) (H : Heap) (locs : List Loc) (ls : Array Slot), fRef_cover_L219 n k16 k a0b i1b i2b i3b i4b i6b i7b z = some z' → g_W D vwCl A z s H → va_S A s.heap H locs → lv_has ls 11 [(0, .ref a0b), (1, .int i1b), (2, .int i2b), (3, .int i3b), (4, .int i4b), (6, .int i6b), (7, .int i7b)] → W p l e (headSpec wsRef_cover ({ frames := 3, cells := 0, slots := 0, locals := 69 })).room s m args below meth c H locs 0 0 (MQ below (g_Qv D vwCl A z') args s 0 0 A) (F0 m 219 ls []) := by
  obtain ⟨hx, hb, hr, hml, hown, hts, hlocks, hK, hA⟩ := id C
  intro k
  induction k with
  | zero =>
    intro a0b i1b i2b i3b i4b i6b i7b z H locs ls hf
    have hf : (none : Option (gS)) = some _ := hf
    cases hf
  | succ k ih =>
    intro a0b i1b i2b i3b i4b i6b i7b z H locs ls hf hW hS hl
    rw [fRef_cover_L219] at hf
    refine lv_iload hx hb dRef_cover_219 (lv_at hl 6 rfl) ?_
    refine lv_iconst (v := 3) hx hb dRef_cover_221 (by decide) ?_
    refine lv_icmp_ge (tgt := 238) hx hb dRef_cover_222 (by decide) (fun c_25 => ?_) (fun c_25 => ?_)
    · replace hf := g_it c_25 hf
      refine lv_aload_n hx hb dRef_cover_238 rfl (lv_at hl 0 rfl) ?_
      replace hf := g_bd hf
      obtain ⟨r_26, hr_26, hf⟩ := hf
      refine g_getR hx hb hts in_Ref hown hK hW (ci := 9) (C := "SecretRowsModel") (T := T_Ref) (N := 36) rfl (k := 25) (by decide) (hts _ kw_545) (fun _ h9 => h9) hr_26 dRef_cover_239 ?_
      refine lv_iload_n hx hb dRef_cover_242 rfl (lv_at hl 1 rfl) ?_
      refine lv_dup2_11 hx hb dRef_cover_243 rfl (g_cat _) ?_
      replace hf := g_bd hf
      obtain ⟨a_27, ea_27, hf⟩ := hf
      subst ea_27
      refine W.eq (g2 := F0 m 244 _ [.int i1b, .ref a_27, .int i1b, .ref a_27]) rfl ?_
      replace hf := g_bd hf
      obtain ⟨v_28, hv_28, hf⟩ := hf
      refine g_ald_i hx hb hK hW hv_28 dRef_cover_244 ?_
      refine lv_iconst (v := 1) hx hb dRef_cover_245 (by decide) ?_
      refine lv_iadd hx hb dRef_cover_246 ?_
      replace hf := g_bd hf
      obtain ⟨z_29, hz_29, hf⟩ := hf
      refine g_ast_i hx hb hW hS hz_29 dRef_cover_247 (fun H locs hW hS => ?_)
      refine lv_aload_n hx hb dRef_cover_248 rfl (lv_at hl 0 rfl) ?_
      replace hf := g_bd hf
      obtain ⟨r_30, hr_30, hf⟩ := hf
      refine g_getR hx hb hts in_Ref hown hK hW (ci := 9) (C := "SecretRowsModel") (T := T_Ref) (N := 36) rfl (k := 22) (by decide) (hts _ kw_542) (fun _ h9 => h9) hr_30 dRef_cover_249 ?_
      refine lv_iload_n hx hb dRef_cover_252 rfl (lv_at hl 1 rfl) ?_
      refine lv_dup2_11 hx hb dRef_cover_253 rfl (g_cat _) ?_
      replace hf := g_bd hf
      obtain ⟨a_31, ea_31, hf⟩ := hf
      subst ea_31
      refine W.eq (g2 := F0 m 254 _ [.int i1b, .ref a_31, .int i1b, .ref a_31]) rfl ?_
      replace hf := g_bd hf
      obtain ⟨v_32, hv_32, hf⟩ := hf
      refine g_ald_i hx hb hK hW hv_32 dRef_cover_254 ?_
      refine lv_iload hx hb dRef_cover_255 (lv_at hl 5 rfl) ?_
      refine lv_iadd hx hb dRef_cover_257 ?_
      replace hf := g_bd hf
      obtain ⟨z_33, hz_33, hf⟩ := hf
      refine g_ast_i hx hb hW hS hz_33 dRef_cover_258 (fun H locs hW hS => ?_)
      refine lv_goto (tgt := 16) hx hb dRef_cover_259 (by decide) ?_
      exact hk16 a0b i1b i2b i3b i4b _ _ _ _ hf hW hS (lv_sub hl [0, 1, 2, 3, 4] rfl)
    · replace hf := g_if c_25 hf
      refine lv_aload_n hx hb dRef_cover_225 rfl (lv_at hl 0 rfl) ?_
      refine lv_iload_n hx hb dRef_cover_226 rfl (lv_at hl 1 rfl) ?_
      refine lv_bipush (v := 42) hx hb dRef_cover_227 (by decide) ?_
      replace hf := g_bd hf
      obtain ⟨_, hi_34, hf⟩ := hf
      replace hf := g_bd hf
      obtain ⟨z_35, hz_35, hf⟩ := hf
      refine g_gov (g_rV (As := [.int i1b, .int 42]) (rest := []) ⟨hx, hb, hml, hown, hts⟩ (mRef_tell l D A n _ _ a0b i1b 42 hz_35) (cwV 2 hts (gi_V kw_711 kw_713 ks_Ref_tell kw_6 kw_714) rfl rfl rfl ⟨rfl, hdRef_tell⟩ ⟨Nat.le_of_ble_eq_true rfl, Nat.le_of_ble_eq_true rfl⟩) hK hW hS hA (ci := 9) (T := T_Ref) (N := 36) rfl hi_34 rfl hl.1 rfl (Nat.le_of_ble_eq_true rfl) dRef_cover_229 ⟨Nat.le_of_ble_eq_true rfl, Nat.le_of_ble_eq_true rfl⟩) hS (fun H locs hW hS => ?_)
      refine lv_iinc (v := (i7b + 1)) (lv' := [(7, .int (i7b + 1)), (0, .ref a0b), (1, .int i1b), (2, .int i2b), (3, .int i3b), (4, .int i4b), (6, .int i6b)]) hx hb dRef_cover_232 hl (k := 6) rfl rfl (by decide) rfl (fun _ hl1 => ?_)
      clear hl
      have hl := hl1
      clear hl1
      refine lv_goto (tgt := 219) hx hb dRef_cover_235 (by decide) ?_
      exact ih a0b i1b i2b i3b i4b i6b (i7b + 1) _ _ _ _ hf hW hS (lv_sub hl [1, 2, 3, 4, 5, 6, 0] rfl)
def fRef_cover_J132 (n : Nat) (k16 : Nat → Int32 → Int32 → Int32 → Int32 → gS → Option (gS)) (k57 : Nat → Int32 → Int32 → Int32 → Int32 → Int32 → Int32 → Int32 → gS → Option (gS)) (k69 : Nat → Int32 → Int32 → Int32 → Int32 → Int32 → Int32 → Int32 → Int32 → gS → Option (gS)) (a0b : Nat) (i1b : Int32) (i2b : Int32) (i3b : Int32) (i4b : Int32) (i5b : Int32) (i7b : Int32) (i8b : Int32) (i9b : Int32) (i10b : Int32) (is0 : Int32) (z : gS) : Option (gS) :=
    if i4b = 0 then (
    if i2b = 0 then (
    if i10b ≤ i9b then (
    k69 a0b i1b i2b i3b 0 i5b is0 i7b (i8b + 1) z)
    else (
    if (i5b + i9b) = i3b then (
    k69 a0b i1b i2b i3b 1 i5b is0 i7b (i8b + 1) z)
    else (
    k69 a0b i1b i2b i3b 0 i5b is0 i7b (i8b + 1) z)))
    else (
    k69 a0b i1b i2b i3b 0 i5b is0 i7b (i8b + 1) z))
    else (
    k69 a0b i1b i2b i3b 1 i5b is0 i7b (i8b + 1) z)
set_option maxHeartbeats 4000000 in
set_option maxRecDepth 100000 in
theorem bRef_cover_132 {p : Program} {l : Launch} {e : Env} {s : State} {m : MethodId} {args : Array Value} {below : List Frame} {meth : Method} {c : Code} {D : va_G} {A : Nat → Prop} (C : g_C p s m meth c args cRef_cover 11 none "SecretRowsModel" gW D vwCl gNN gOO A) (n : Nat) {z' : gS}
    {k16 : Nat → Int32 → Int32 → Int32 → Int32 → gS → Option (gS)} (hk16 : ∀ (a0b : Nat) (i1b : Int32) (i2b : Int32) (i3b : Int32) (i4b : Int32) (z : gS) (H : Heap) (locs : List Loc) (ls : Array Slot), k16 a0b i1b i2b i3b i4b z = some z' → g_W D vwCl A z s H → va_S A s.heap H locs → lv_has ls 11 [(0, .ref a0b), (1, .int i1b), (2, .int i2b), (3, .int i3b), (4, .int i4b)] → W p l e (headSpec wsRef_cover ({ frames := 3, cells := 0, slots := 0, locals := 69 })).room s m args below meth c H locs 0 0 (MQ below (g_Qv D vwCl A z') args s 0 0 A) (F0 m 16 ls []))
    {k57 : Nat → Int32 → Int32 → Int32 → Int32 → Int32 → Int32 → Int32 → gS → Option (gS)} (hk57 : ∀ (a0b : Nat) (i1b : Int32) (i2b : Int32) (i3b : Int32) (i4b : Int32) (i5b : Int32) (i6b : Int32) (i7b : Int32) (z : gS) (H : Heap) (locs : List Loc) (ls : Array Slot), k57 a0b i1b i2b i3b i4b i5b i6b i7b z = some z' → g_W D vwCl A z s H → va_S A s.heap H locs → lv_has ls 11 [(0, .ref a0b), (1, .int i1b), (2, .int i2b), (3, .int i3b), (4, .int i4b), (5, .int i5b), (6, .int i6b), (7, .int i7b)] → W p l e (headSpec wsRef_cover ({ frames := 3, cells := 0, slots := 0, locals := 69 })).room s m args below meth c H locs 0 0 (MQ below (g_Qv D vwCl A z') args s 0 0 A) (F0 m 57 ls []))
    {k69 : Nat → Int32 → Int32 → Int32 → Int32 → Int32 → Int32 → Int32 → Int32 → gS → Option (gS)} (hk69 : ∀ (a0b : Nat) (i1b : Int32) (i2b : Int32) (i3b : Int32) (i4b : Int32) (i5b : Int32) (i6b : Int32) (i7b : Int32) (i8b : Int32) (z : gS) (H : Heap) (locs : List Loc) (ls : Array Slot), k69 a0b i1b i2b i3b i4b i5b i6b i7b i8b z = some z' → g_W D vwCl A z s H → va_S A s.heap H locs → lv_has ls 11 [(0, .ref a0b), (1, .int i1b), (2, .int i2b), (3, .int i3b), (4, .int i4b), (5, .int i5b), (6, .int i6b), (7, .int i7b), (8, .int i8b)] → W p l e (headSpec wsRef_cover ({ frames := 3, cells := 0, slots := 0, locals := 69 })).room s m args below meth c H locs 0 0 (MQ below (g_Qv D vwCl A z') args s 0 0 A) (F0 m 69 ls [])) : ∀ (a0b : Nat) (i1b : Int32) (i2b : Int32) (i3b : Int32) (i4b : Int32) (i5b : Int32) (i7b : Int32) (i8b : Int32) (i9b : Int32) (i10b : Int32) (is0 : Int32) (z : gS) (H : Heap) (locs : List Loc) (ls : Array Slot), fRef_cover_J132 n k16 k57 k69 a0b i1b i2b i3b i4b i5b i7b i8b i9b i10b is0 z = some z' → g_W D vwCl A z s H → va_S A s.heap H locs → lv_has ls 11 [(0, .ref a0b), (1, .int i1b), (2, .int i2b), (3, .int i3b), (4, .int i4b), (5, .int i5b), (7, .int i7b), (8, .int i8b), (9, .int i9b), (10, .int i10b)] → W p l e (headSpec wsRef_cover ({ frames := 3, cells := 0, slots := 0, locals := 69 })).room s m args below meth c H locs 0 0 (MQ below (g_Qv D vwCl A z') args s 0 0 A) (F0 m 132 ls [.int is0]) := by
  obtain ⟨hx, hb, hr, hml, hown, hts, hlocks, hK, hA⟩ := id C
  intro a0b i1b i2b i3b i4b i5b i7b i8b i9b i10b is0 z H locs ls hf hW hS hl
  unfold fRef_cover_J132 at hf
  refine lv_istore (lv' := [(6, .int is0), (0, .ref a0b), (1, .int i1b), (2, .int i2b), (3, .int i3b), (4, .int i4b), (5, .int i5b), (7, .int i7b), (8, .int i8b), (9, .int i9b), (10, .int i10b)]) hx hb dRef_cover_132 hl (by decide) rfl (fun _ hl1 => ?_)
  clear hl
  have hl := hl1
  clear hl1
  refine lv_iload hx hb dRef_cover_134 (lv_at hl 5 rfl) ?_
  refine lv_if_ne (tgt := 159) hx hb dRef_cover_136 (by decide) (fun c_51 => ?_) (fun c_51 => ?_)
  · replace hf := g_if c_51 hf
    refine lv_iconst (v := 1) hx hb dRef_cover_159 (by decide) ?_
    refine lv_goto (tgt := 164) hx hb dRef_cover_160 (by decide) ?_
    refine lv_istore (lv' := [(4, .int 1), (6, .int is0), (0, .ref a0b), (1, .int i1b), (2, .int i2b), (3, .int i3b), (5, .int i5b), (7, .int i7b), (8, .int i8b), (9, .int i9b), (10, .int i10b)]) hx hb dRef_cover_164 hl (by decide) rfl (fun _ hl1 => ?_)
    clear hl
    have hl := hl1
    clear hl1
    refine lv_iinc (v := (i8b + 1)) (lv' := [(8, .int (i8b + 1)), (4, .int 1), (6, .int is0), (0, .ref a0b), (1, .int i1b), (2, .int i2b), (3, .int i3b), (5, .int i5b), (7, .int i7b), (9, .int i9b), (10, .int i10b)]) hx hb dRef_cover_166 hl (k := 8) rfl rfl (by decide) rfl (fun _ hl1 => ?_)
    clear hl
    have hl := hl1
    clear hl1
    refine lv_goto (tgt := 69) hx hb dRef_cover_169 (by decide) ?_
    exact hk69 a0b i1b i2b i3b 1 i5b is0 i7b (i8b + 1) _ _ _ _ hf hW hS (lv_sub hl [3, 4, 5, 6, 1, 7, 2, 8, 0] rfl)
  · replace hf := g_it c_51 hf
    refine lv_iload_n hx hb dRef_cover_139 rfl (lv_at hl 3 rfl) ?_
    refine lv_if_ne (tgt := 163) hx hb dRef_cover_140 (by decide) (fun c_52 => ?_) (fun c_52 => ?_)
    · replace hf := g_if c_52 hf
      refine lv_iconst (v := 0) hx hb dRef_cover_163 (by decide) ?_
      refine lv_istore (lv' := [(4, .int 0), (6, .int is0), (0, .ref a0b), (1, .int i1b), (2, .int i2b), (3, .int i3b), (5, .int i5b), (7, .int i7b), (8, .int i8b), (9, .int i9b), (10, .int i10b)]) hx hb dRef_cover_164 hl (by decide) rfl (fun _ hl1 => ?_)
      clear hl
      have hl := hl1
      clear hl1
      refine lv_iinc (v := (i8b + 1)) (lv' := [(8, .int (i8b + 1)), (4, .int 0), (6, .int is0), (0, .ref a0b), (1, .int i1b), (2, .int i2b), (3, .int i3b), (5, .int i5b), (7, .int i7b), (9, .int i9b), (10, .int i10b)]) hx hb dRef_cover_166 hl (k := 8) rfl rfl (by decide) rfl (fun _ hl1 => ?_)
      clear hl
      have hl := hl1
      clear hl1
      refine lv_goto (tgt := 69) hx hb dRef_cover_169 (by decide) ?_
      exact hk69 a0b i1b i2b i3b 0 i5b is0 i7b (i8b + 1) _ _ _ _ hf hW hS (lv_sub hl [3, 4, 5, 6, 1, 7, 2, 8, 0] rfl)
    · replace hf := g_it c_52 hf
      refine lv_iload hx hb dRef_cover_143 (lv_at hl 9 rfl) ?_
      refine lv_iload hx hb dRef_cover_145 (lv_at hl 10 rfl) ?_
      refine lv_icmp_ge (tgt := 163) hx hb dRef_cover_147 (by decide) (fun c_53 => ?_) (fun c_53 => ?_)
      · replace hf := g_it c_53 hf
        refine lv_iconst (v := 0) hx hb dRef_cover_163 (by decide) ?_
        refine lv_istore (lv' := [(4, .int 0), (6, .int is0), (0, .ref a0b), (1, .int i1b), (2, .int i2b), (3, .int i3b), (5, .int i5b), (7, .int i7b), (8, .int i8b), (9, .int i9b), (10, .int i10b)]) hx hb dRef_cover_164 hl (by decide) rfl (fun _ hl1 => ?_)
        clear hl
        have hl := hl1
        clear hl1
        refine lv_iinc (v := (i8b + 1)) (lv' := [(8, .int (i8b + 1)), (4, .int 0), (6, .int is0), (0, .ref a0b), (1, .int i1b), (2, .int i2b), (3, .int i3b), (5, .int i5b), (7, .int i7b), (9, .int i9b), (10, .int i10b)]) hx hb dRef_cover_166 hl (k := 8) rfl rfl (by decide) rfl (fun _ hl1 => ?_)
        clear hl
        have hl := hl1
        clear hl1
        refine lv_goto (tgt := 69) hx hb dRef_cover_169 (by decide) ?_
        exact hk69 a0b i1b i2b i3b 0 i5b is0 i7b (i8b + 1) _ _ _ _ hf hW hS (lv_sub hl [3, 4, 5, 6, 1, 7, 2, 8, 0] rfl)
      · replace hf := g_if c_53 hf
        refine lv_iload hx hb dRef_cover_150 (lv_at hl 6 rfl) ?_
        refine lv_iload hx hb dRef_cover_152 (lv_at hl 9 rfl) ?_
        refine lv_iadd hx hb dRef_cover_154 ?_
        refine lv_iload_n hx hb dRef_cover_155 rfl (lv_at hl 4 rfl) ?_
        refine lv_icmp_ne (tgt := 163) hx hb dRef_cover_156 (by decide) (fun c_54 => ?_) (fun c_54 => ?_)
        · replace hf := g_if c_54 hf
          refine lv_iconst (v := 0) hx hb dRef_cover_163 (by decide) ?_
          refine lv_istore (lv' := [(4, .int 0), (6, .int is0), (0, .ref a0b), (1, .int i1b), (2, .int i2b), (3, .int i3b), (5, .int i5b), (7, .int i7b), (8, .int i8b), (9, .int i9b), (10, .int i10b)]) hx hb dRef_cover_164 hl (by decide) rfl (fun _ hl1 => ?_)
          clear hl
          have hl := hl1
          clear hl1
          refine lv_iinc (v := (i8b + 1)) (lv' := [(8, .int (i8b + 1)), (4, .int 0), (6, .int is0), (0, .ref a0b), (1, .int i1b), (2, .int i2b), (3, .int i3b), (5, .int i5b), (7, .int i7b), (9, .int i9b), (10, .int i10b)]) hx hb dRef_cover_166 hl (k := 8) rfl rfl (by decide) rfl (fun _ hl1 => ?_)
          clear hl
          have hl := hl1
          clear hl1
          refine lv_goto (tgt := 69) hx hb dRef_cover_169 (by decide) ?_
          exact hk69 a0b i1b i2b i3b 0 i5b is0 i7b (i8b + 1) _ _ _ _ hf hW hS (lv_sub hl [3, 4, 5, 6, 1, 7, 2, 8, 0] rfl)
        · replace hf := g_it c_54 hf
          refine lv_iconst (v := 1) hx hb dRef_cover_159 (by decide) ?_
          refine lv_goto (tgt := 164) hx hb dRef_cover_160 (by decide) ?_
          refine lv_istore (lv' := [(4, .int 1), (6, .int is0), (0, .ref a0b), (1, .int i1b), (2, .int i2b), (3, .int i3b), (5, .int i5b), (7, .int i7b), (8, .int i8b), (9, .int i9b), (10, .int i10b)]) hx hb dRef_cover_164 hl (by decide) rfl (fun _ hl1 => ?_)
          clear hl
          have hl := hl1
          clear hl1
          refine lv_iinc (v := (i8b + 1)) (lv' := [(8, .int (i8b + 1)), (4, .int 1), (6, .int is0), (0, .ref a0b), (1, .int i1b), (2, .int i2b), (3, .int i3b), (5, .int i5b), (7, .int i7b), (9, .int i9b), (10, .int i10b)]) hx hb dRef_cover_166 hl (k := 8) rfl rfl (by decide) rfl (fun _ hl1 => ?_)
          clear hl
          have hl := hl1
          clear hl1
          refine lv_goto (tgt := 69) hx hb dRef_cover_169 (by decide) ?_
          exact hk69 a0b i1b i2b i3b 1 i5b is0 i7b (i8b + 1) _ _ _ _ hf hW hS (lv_sub hl [3, 4, 5, 6, 1, 7, 2, 8, 0] rfl)
def fRef_cover_J130 (n : Nat) (k16 : Nat → Int32 → Int32 → Int32 → Int32 → gS → Option (gS)) (k57 : Nat → Int32 → Int32 → Int32 → Int32 → Int32 → Int32 → Int32 → gS → Option (gS)) (k69 : Nat → Int32 → Int32 → Int32 → Int32 → Int32 → Int32 → Int32 → Int32 → gS → Option (gS)) (a0b : Nat) (i1b : Int32) (i2b : Int32) (i3b : Int32) (i4b : Int32) (i5b : Int32) (i6b : Int32) (i7b : Int32) (i8b : Int32) (i9b : Int32) (i10b : Int32) (z : gS) : Option (gS) :=
    fRef_cover_J132 n k16 k57 k69 a0b i1b i2b i3b i4b i5b i7b i8b i9b i10b i6b z
set_option maxHeartbeats 4000000 in
set_option maxRecDepth 100000 in
theorem bRef_cover_130 {p : Program} {l : Launch} {e : Env} {s : State} {m : MethodId} {args : Array Value} {below : List Frame} {meth : Method} {c : Code} {D : va_G} {A : Nat → Prop} (C : g_C p s m meth c args cRef_cover 11 none "SecretRowsModel" gW D vwCl gNN gOO A) (n : Nat) {z' : gS}
    {k16 : Nat → Int32 → Int32 → Int32 → Int32 → gS → Option (gS)} (hk16 : ∀ (a0b : Nat) (i1b : Int32) (i2b : Int32) (i3b : Int32) (i4b : Int32) (z : gS) (H : Heap) (locs : List Loc) (ls : Array Slot), k16 a0b i1b i2b i3b i4b z = some z' → g_W D vwCl A z s H → va_S A s.heap H locs → lv_has ls 11 [(0, .ref a0b), (1, .int i1b), (2, .int i2b), (3, .int i3b), (4, .int i4b)] → W p l e (headSpec wsRef_cover ({ frames := 3, cells := 0, slots := 0, locals := 69 })).room s m args below meth c H locs 0 0 (MQ below (g_Qv D vwCl A z') args s 0 0 A) (F0 m 16 ls []))
    {k57 : Nat → Int32 → Int32 → Int32 → Int32 → Int32 → Int32 → Int32 → gS → Option (gS)} (hk57 : ∀ (a0b : Nat) (i1b : Int32) (i2b : Int32) (i3b : Int32) (i4b : Int32) (i5b : Int32) (i6b : Int32) (i7b : Int32) (z : gS) (H : Heap) (locs : List Loc) (ls : Array Slot), k57 a0b i1b i2b i3b i4b i5b i6b i7b z = some z' → g_W D vwCl A z s H → va_S A s.heap H locs → lv_has ls 11 [(0, .ref a0b), (1, .int i1b), (2, .int i2b), (3, .int i3b), (4, .int i4b), (5, .int i5b), (6, .int i6b), (7, .int i7b)] → W p l e (headSpec wsRef_cover ({ frames := 3, cells := 0, slots := 0, locals := 69 })).room s m args below meth c H locs 0 0 (MQ below (g_Qv D vwCl A z') args s 0 0 A) (F0 m 57 ls []))
    {k69 : Nat → Int32 → Int32 → Int32 → Int32 → Int32 → Int32 → Int32 → Int32 → gS → Option (gS)} (hk69 : ∀ (a0b : Nat) (i1b : Int32) (i2b : Int32) (i3b : Int32) (i4b : Int32) (i5b : Int32) (i6b : Int32) (i7b : Int32) (i8b : Int32) (z : gS) (H : Heap) (locs : List Loc) (ls : Array Slot), k69 a0b i1b i2b i3b i4b i5b i6b i7b i8b z = some z' → g_W D vwCl A z s H → va_S A s.heap H locs → lv_has ls 11 [(0, .ref a0b), (1, .int i1b), (2, .int i2b), (3, .int i3b), (4, .int i4b), (5, .int i5b), (6, .int i6b), (7, .int i7b), (8, .int i8b)] → W p l e (headSpec wsRef_cover ({ frames := 3, cells := 0, slots := 0, locals := 69 })).room s m args below meth c H locs 0 0 (MQ below (g_Qv D vwCl A z') args s 0 0 A) (F0 m 69 ls [])) : ∀ (a0b : Nat) (i1b : Int32) (i2b : Int32) (i3b : Int32) (i4b : Int32) (i5b : Int32) (i6b : Int32) (i7b : Int32) (i8b : Int32) (i9b : Int32) (i10b : Int32) (z : gS) (H : Heap) (locs : List Loc) (ls : Array Slot), fRef_cover_J130 n k16 k57 k69 a0b i1b i2b i3b i4b i5b i6b i7b i8b i9b i10b z = some z' → g_W D vwCl A z s H → va_S A s.heap H locs → lv_has ls 11 [(0, .ref a0b), (1, .int i1b), (2, .int i2b), (3, .int i3b), (4, .int i4b), (5, .int i5b), (6, .int i6b), (7, .int i7b), (8, .int i8b), (9, .int i9b), (10, .int i10b)] → W p l e (headSpec wsRef_cover ({ frames := 3, cells := 0, slots := 0, locals := 69 })).room s m args below meth c H locs 0 0 (MQ below (g_Qv D vwCl A z') args s 0 0 A) (F0 m 130 ls []) := by
  obtain ⟨hx, hb, hr, hml, hown, hts, hlocks, hK, hA⟩ := id C
  intro a0b i1b i2b i3b i4b i5b i6b i7b i8b i9b i10b z H locs ls hf hW hS hl
  unfold fRef_cover_J130 at hf
  refine lv_iload hx hb dRef_cover_130 (lv_at hl 6 rfl) ?_
  exact bRef_cover_132 C n hk16 hk57 hk69 a0b i1b i2b i3b i4b i5b i7b i8b i9b i10b i6b _ _ _ _ hf hW hS (lv_sub hl [0, 1, 2, 3, 4, 5, 7, 8, 9, 10] rfl)
def fRef_cover_L69 (n : Nat) (k16 : Nat → Int32 → Int32 → Int32 → Int32 → gS → Option (gS)) (k57 : Nat → Int32 → Int32 → Int32 → Int32 → Int32 → Int32 → Int32 → gS → Option (gS)) : Nat → Nat → Int32 → Int32 → Int32 → Int32 → Int32 → Int32 → Int32 → Int32 → gS → Option (gS)
  | 0, _, _, _, _, _, _, _, _, _, _ => none
  | k + 1, a0b, i1b, i2b, i3b, i4b, i5b, i6b, i7b, i8b, z =>
    if 3 ≤ i8b then (
    k57 a0b i1b i2b i3b i4b i5b i6b (i7b + 1) z)
    else (
    (g_is z a0b 9).bind fun _ =>
    g_bp (fRef_counts n a0b i7b z) fun v_39 z_38 =>
    if v_39 = 0 then (
    k57 a0b i1b i2b i3b i4b i5b i6b (i7b + 1) z_38)
    else (
    (g_fR z_38 a0b 9 20).bind fun r_41 =>
    r_41.bind fun a_42 =>
    (g_is z_38 a0b 9).bind fun _ =>
    g_bp (fRef_common n a0b a_42 i5b i3b i7b i8b z_38) fun v_45 z_44 =>
    (g_is z_44 a0b 9).bind fun _ =>
    g_bp (fRef_formLength n a0b i7b i8b z_44) fun v_48 z_47 =>
    if v_45 = v_48 then (
    if v_45 ≤ i6b then (
    fRef_cover_J130 n k16 k57 (fun a0b i1b i2b i3b i4b i5b i6b i7b i8b z => fRef_cover_L69 n k16 k57 k a0b i1b i2b i3b i4b i5b i6b i7b i8b z) a0b i1b i2b i3b i4b i5b i6b i7b i8b v_45 v_48 z_47)
    else (
    fRef_cover_J132 n k16 k57 (fun a0b i1b i2b i3b i4b i5b i6b i7b i8b z => fRef_cover_L69 n k16 k57 k a0b i1b i2b i3b i4b i5b i6b i7b i8b z) a0b i1b i2b i3b i4b i5b i7b i8b v_45 v_48 v_45 z_47))
    else (
    fRef_cover_J130 n k16 k57 (fun a0b i1b i2b i3b i4b i5b i6b i7b i8b z => fRef_cover_L69 n k16 k57 k a0b i1b i2b i3b i4b i5b i6b i7b i8b z) a0b i1b i2b i3b i4b i5b i6b i7b i8b v_45 v_48 z_47)))
set_option maxHeartbeats 4000000 in
set_option maxRecDepth 100000 in
theorem bRef_cover_69 {p : Program} {l : Launch} {e : Env} {s : State} {m : MethodId} {args : Array Value} {below : List Frame} {meth : Method} {c : Code} {D : va_G} {A : Nat → Prop} (C : g_C p s m meth c args cRef_cover 11 none "SecretRowsModel" gW D vwCl gNN gOO A) (n : Nat) {z' : gS}
    {k16 : Nat → Int32 → Int32 → Int32 → Int32 → gS → Option (gS)} (hk16 : ∀ (a0b : Nat) (i1b : Int32) (i2b : Int32) (i3b : Int32) (i4b : Int32) (z : gS) (H : Heap) (locs : List Loc) (ls : Array Slot), k16 a0b i1b i2b i3b i4b z = some z' → g_W D vwCl A z s H → va_S A s.heap H locs → lv_has ls 11 [(0, .ref a0b), (1, .int i1b), (2, .int i2b), (3, .int i3b), (4, .int i4b)] → W p l e (headSpec wsRef_cover ({ frames := 3, cells := 0, slots := 0, locals := 69 })).room s m args below meth c H locs 0 0 (MQ below (g_Qv D vwCl A z') args s 0 0 A) (F0 m 16 ls []))
    {k57 : Nat → Int32 → Int32 → Int32 → Int32 → Int32 → Int32 → Int32 → gS → Option (gS)} (hk57 : ∀ (a0b : Nat) (i1b : Int32) (i2b : Int32) (i3b : Int32) (i4b : Int32) (i5b : Int32) (i6b : Int32) (i7b : Int32) (z : gS) (H : Heap) (locs : List Loc) (ls : Array Slot), k57 a0b i1b i2b i3b i4b i5b i6b i7b z = some z' → g_W D vwCl A z s H → va_S A s.heap H locs → lv_has ls 11 [(0, .ref a0b), (1, .int i1b), (2, .int i2b), (3, .int i3b), (4, .int i4b), (5, .int i5b), (6, .int i6b), (7, .int i7b)] → W p l e (headSpec wsRef_cover ({ frames := 3, cells := 0, slots := 0, locals := 69 })).room s m args below meth c H locs 0 0 (MQ below (g_Qv D vwCl A z') args s 0 0 A) (F0 m 57 ls [])) : ∀ k : Nat, ∀ (a0b : Nat) (i1b : Int32) (i2b : Int32) (i3b : Int32) (i4b : Int32) (i5b : Int32) (i6b : Int32) (i7b : Int32) (i8b : Int32) (z : gS) (H : Heap) (locs : List Loc) (ls : Array Slot), fRef_cover_L69 n k16 k57 k a0b i1b i2b i3b i4b i5b i6b i7b i8b z = some z' → g_W D vwCl A z s H → va_S A s.heap H locs → lv_has ls 11 [(0, .ref a0b), (1, .int i1b), (2, .int i2b), (3, .int i3b), (4, .int i4b), (5, .int i5b), (6, .int i6b), (7, .int i7b), (8, .int i8b)] → W p l e (headSpec wsRef_cover ({ frames := 3, cells := 0, slots := 0, locals := 69 })).room s m args below meth c H locs 0 0 (MQ below (g_Qv D vwCl A z') args s 0 0 A) (F0 m 69 ls []) := by
  obtain ⟨hx, hb, hr, hml, hown, hts, hlocks, hK, hA⟩ := id C
  intro k
  induction k with
  | zero =>
    intro a0b i1b i2b i3b i4b i5b i6b i7b i8b z H locs ls hf
    have hf : (none : Option (gS)) = some _ := hf
    cases hf
  | succ k ih =>
    intro a0b i1b i2b i3b i4b i5b i6b i7b i8b z H locs ls hf hW hS hl
    rw [fRef_cover_L69] at hf
    refine lv_iload hx hb dRef_cover_69 (lv_at hl 8 rfl) ?_
    refine lv_iconst (v := 3) hx hb dRef_cover_71 (by decide) ?_
    refine lv_icmp_ge (tgt := 172) hx hb dRef_cover_72 (by decide) (fun c_36 => ?_) (fun c_36 => ?_)
    · replace hf := g_it c_36 hf
      refine lv_iinc (v := (i7b + 1)) (lv' := [(7, .int (i7b + 1)), (0, .ref a0b), (1, .int i1b), (2, .int i2b), (3, .int i3b), (4, .int i4b), (5, .int i5b), (6, .int i6b), (8, .int i8b)]) hx hb dRef_cover_172 hl (k := 7) rfl rfl (by decide) rfl (fun _ hl1 => ?_)
      clear hl
      have hl := hl1
      clear hl1
      refine lv_goto (tgt := 57) hx hb dRef_cover_175 (by decide) ?_
      exact hk57 a0b i1b i2b i3b i4b i5b i6b (i7b + 1) _ _ _ _ hf hW hS (lv_sub hl [1, 2, 3, 4, 5, 6, 7, 0] rfl)
    · replace hf := g_if c_36 hf
      refine lv_aload_n hx hb dRef_cover_75 rfl (lv_at hl 0 rfl) ?_
      refine lv_iload hx hb dRef_cover_76 (lv_at hl 7 rfl) ?_
      replace hf := g_bd hf
      obtain ⟨_, hi_37, hf⟩ := hf
      replace hf := g_bps hf
      obtain ⟨v_39, z_38, hz_38, hf⟩ := hf
      refine g_goi (g_rV (As := [.int i7b]) (rest := []) ⟨hx, hb, hml, hown, hts⟩ (mRef_counts l D A n _ _ a0b i7b _ hz_38) (cwV 1 hts (gi_V kw_692 kw_694 ks_Ref_counts kw_6 kw_695) rfl rfl rfl ⟨rfl, hdRef_counts⟩ ⟨Nat.le_of_ble_eq_true rfl, Nat.le_of_ble_eq_true rfl⟩) hK hW hS hA (ci := 9) (T := T_Ref) (N := 36) rfl hi_37 rfl hl.1 rfl (Nat.le_of_ble_eq_true rfl) dRef_cover_78 ⟨Nat.le_of_ble_eq_true rfl, Nat.le_of_ble_eq_true rfl⟩) hS (fun H locs hW hS => ?_)
      refine lv_if_eq (tgt := 172) hx hb dRef_cover_81 (by decide) (fun c_40 => ?_) (fun c_40 => ?_)
      · replace hf := g_it c_40 hf
        refine lv_iinc (v := (i7b + 1)) (lv' := [(7, .int (i7b + 1)), (0, .ref a0b), (1, .int i1b), (2, .int i2b), (3, .int i3b), (4, .int i4b), (5, .int i5b), (6, .int i6b), (8, .int i8b)]) hx hb dRef_cover_172 hl (k := 7) rfl rfl (by decide) rfl (fun _ hl1 => ?_)
        clear hl
        have hl := hl1
        clear hl1
        refine lv_goto (tgt := 57) hx hb dRef_cover_175 (by decide) ?_
        exact hk57 a0b i1b i2b i3b i4b i5b i6b (i7b + 1) _ _ _ _ hf hW hS (lv_sub hl [1, 2, 3, 4, 5, 6, 7, 0] rfl)
      · replace hf := g_if c_40 hf
        refine lv_aload_n hx hb dRef_cover_84 rfl (lv_at hl 0 rfl) ?_
        refine lv_aload_n hx hb dRef_cover_85 rfl (lv_at hl 0 rfl) ?_
        replace hf := g_bd hf
        obtain ⟨r_41, hr_41, hf⟩ := hf
        refine g_getR hx hb hts in_Ref hown hK hW (ci := 9) (C := "SecretRowsModel") (T := T_Ref) (N := 36) rfl (k := 20) (by decide) (hts _ kw_540) (fun _ h9 => h9) hr_41 dRef_cover_86 ?_
        refine lv_iload hx hb dRef_cover_89 (lv_at hl 5 rfl) ?_
        refine lv_iload_n hx hb dRef_cover_91 rfl (lv_at hl 3 rfl) ?_
        refine lv_iload hx hb dRef_cover_92 (lv_at hl 7 rfl) ?_
        refine lv_iload hx hb dRef_cover_94 (lv_at hl 8 rfl) ?_
        replace hf := g_bd hf
        obtain ⟨a_42, ea_42, hf⟩ := hf
        subst ea_42
        refine W.eq (g2 := F0 m 96 _ [.int i8b, .int i7b, .int i3b, .int i5b, .ref a_42, .ref a0b]) rfl ?_
        replace hf := g_bd hf
        obtain ⟨_, hi_43, hf⟩ := hf
        replace hf := g_bps hf
        obtain ⟨v_45, z_44, hz_44, hf⟩ := hf
        refine g_goi (g_rV (As := [.ref a_42, .int i5b, .int i3b, .int i7b, .int i8b]) (rest := []) ⟨hx, hb, hml, hown, hts⟩ (mRef_common l D A n _ _ a0b a_42 i5b i3b i7b i8b _ hz_44) (cwV 5 hts (gi_V kw_696 kw_698 ks_Ref_common kw_6 kw_699) rfl rfl rfl ⟨rfl, hdRef_common⟩ ⟨Nat.le_of_ble_eq_true rfl, Nat.le_of_ble_eq_true rfl⟩) hK hW hS hA (ci := 9) (T := T_Ref) (N := 36) rfl hi_43 rfl hl.1 rfl (Nat.le_of_ble_eq_true rfl) dRef_cover_96 ⟨Nat.le_of_ble_eq_true rfl, Nat.le_of_ble_eq_true rfl⟩) hS (fun H locs hW hS => ?_)
        refine lv_istore (lv' := [(9, .int v_45), (0, .ref a0b), (1, .int i1b), (2, .int i2b), (3, .int i3b), (4, .int i4b), (5, .int i5b), (6, .int i6b), (7, .int i7b), (8, .int i8b)]) hx hb dRef_cover_99 hl (by decide) rfl (fun _ hl1 => ?_)
        clear hl
        have hl := hl1
        clear hl1
        refine lv_aload_n hx hb dRef_cover_101 rfl (lv_at hl 1 rfl) ?_
        refine lv_iload hx hb dRef_cover_102 (lv_at hl 8 rfl) ?_
        refine lv_iload hx hb dRef_cover_104 (lv_at hl 9 rfl) ?_
        replace hf := g_bd hf
        obtain ⟨_, hi_46, hf⟩ := hf
        replace hf := g_bps hf
        obtain ⟨v_48, z_47, hz_47, hf⟩ := hf
        refine g_goi (g_rV (As := [.int i7b, .int i8b]) (rest := []) ⟨hx, hb, hml, hown, hts⟩ (mRef_formLength l D A n _ _ a0b i7b i8b _ hz_47) (cwV 2 hts (gi_V kw_700 kw_702 ks_Ref_formLength kw_6 kw_703) rfl rfl rfl ⟨rfl, hdRef_formLength⟩ ⟨Nat.le_of_ble_eq_true rfl, Nat.le_of_ble_eq_true rfl⟩) hK hW hS hA (ci := 9) (T := T_Ref) (N := 36) rfl hi_46 rfl hl.1 rfl (Nat.le_of_ble_eq_true rfl) dRef_cover_106 ⟨Nat.le_of_ble_eq_true rfl, Nat.le_of_ble_eq_true rfl⟩) hS (fun H locs hW hS => ?_)
        refine lv_istore (lv' := [(10, .int v_48), (9, .int v_45), (0, .ref a0b), (1, .int i1b), (2, .int i2b), (3, .int i3b), (4, .int i4b), (5, .int i5b), (6, .int i6b), (7, .int i7b), (8, .int i8b)]) hx hb dRef_cover_109 hl (by decide) rfl (fun _ hl1 => ?_)
        clear hl
        have hl := hl1
        clear hl1
        refine lv_iload hx hb dRef_cover_111 (lv_at hl 1 rfl) ?_
        refine lv_iload hx hb dRef_cover_113 (lv_at hl 0 rfl) ?_
        refine lv_icmp_ne (tgt := 130) hx hb dRef_cover_115 (by decide) (fun c_49 => ?_) (fun c_49 => ?_)
        · replace hf := g_if c_49 hf
          exact bRef_cover_130 C n hk16 hk57 (fun a0b i1b i2b i3b i4b i5b i6b i7b i8b => ih a0b i1b i2b i3b i4b i5b i6b i7b i8b) a0b i1b i2b i3b i4b i5b i6b i7b i8b v_45 v_48 _ _ _ _ hf hW hS (lv_sub hl [2, 3, 4, 5, 6, 7, 8, 9, 10, 1, 0] rfl)
        · replace hf := g_it c_49 hf
          refine lv_iload hx hb dRef_cover_118 (lv_at hl 1 rfl) ?_
          refine lv_iload hx hb dRef_cover_120 (lv_at hl 8 rfl) ?_
          refine lv_icmp_le (tgt := 130) hx hb dRef_cover_122 (by decide) (fun c_50 => ?_) (fun c_50 => ?_)
          · replace hf := g_it c_50 hf
            exact bRef_cover_130 C n hk16 hk57 (fun a0b i1b i2b i3b i4b i5b i6b i7b i8b => ih a0b i1b i2b i3b i4b i5b i6b i7b i8b) a0b i1b i2b i3b i4b i5b i6b i7b i8b v_45 v_48 _ _ _ _ hf hW hS (lv_sub hl [2, 3, 4, 5, 6, 7, 8, 9, 10, 1, 0] rfl)
          · replace hf := g_if c_50 hf
            refine lv_iload hx hb dRef_cover_125 (lv_at hl 1 rfl) ?_
            refine lv_goto (tgt := 132) hx hb dRef_cover_127 (by decide) ?_
            exact bRef_cover_132 C n hk16 hk57 (fun a0b i1b i2b i3b i4b i5b i6b i7b i8b => ih a0b i1b i2b i3b i4b i5b i6b i7b i8b) a0b i1b i2b i3b i4b i5b i7b i8b v_45 v_48 v_45 _ _ _ _ hf hW hS (lv_sub hl [2, 3, 4, 5, 6, 7, 9, 10, 1, 0] rfl)
def fRef_cover_L57 (n : Nat) (k16 : Nat → Int32 → Int32 → Int32 → Int32 → gS → Option (gS)) : Nat → Nat → Int32 → Int32 → Int32 → Int32 → Int32 → Int32 → Int32 → gS → Option (gS)
  | 0, _, _, _, _, _, _, _, _, _ => none
  | k + 1, a0b, i1b, i2b, i3b, i4b, i5b, i6b, i7b, z =>
    (g_fI z a0b 9 3).bind fun v_12 =>
    if v_12 ≤ i7b then (
    if i4b = 0 then (
    if i6b = 0 then (
    (g_fR z a0b 9 20).bind fun r_16 =>
    r_16.bind fun a_17 =>
    (g_ldI z .int a_17 i5b).bind fun v_18 =>
    (g_is z a0b 9).bind fun _ =>
    (fRef_tell n a0b i1b v_18 z).bind fun z_20 =>
    (g_fR z_20 a0b 9 22).bind fun r_21 =>
    r_21.bind fun a_22 =>
    (g_ldI z_20 .int a_22 i1b).bind fun v_23 =>
    (g_stI z_20 .int a_22 i1b (v_23 + 1)).bind fun z_24 =>
    k16 a0b i1b i2b i3b i4b z_24)
    else (
    fRef_cover_L219 n k16 n a0b i1b i2b i3b i4b i6b 0 z))
    else (
    k16 a0b i1b i2b i3b i4b z))
    else (
    fRef_cover_L69 n k16 (fun a0b i1b i2b i3b i4b i5b i6b i7b z => fRef_cover_L57 n k16 k a0b i1b i2b i3b i4b i5b i6b i7b z) n a0b i1b i2b i3b i4b i5b i6b i7b 0 z)
set_option maxHeartbeats 4000000 in
set_option maxRecDepth 100000 in
theorem bRef_cover_57 {p : Program} {l : Launch} {e : Env} {s : State} {m : MethodId} {args : Array Value} {below : List Frame} {meth : Method} {c : Code} {D : va_G} {A : Nat → Prop} (C : g_C p s m meth c args cRef_cover 11 none "SecretRowsModel" gW D vwCl gNN gOO A) (n : Nat) {z' : gS}
    {k16 : Nat → Int32 → Int32 → Int32 → Int32 → gS → Option (gS)} (hk16 : ∀ (a0b : Nat) (i1b : Int32) (i2b : Int32) (i3b : Int32) (i4b : Int32) (z : gS) (H : Heap) (locs : List Loc) (ls : Array Slot), k16 a0b i1b i2b i3b i4b z = some z' → g_W D vwCl A z s H → va_S A s.heap H locs → lv_has ls 11 [(0, .ref a0b), (1, .int i1b), (2, .int i2b), (3, .int i3b), (4, .int i4b)] → W p l e (headSpec wsRef_cover ({ frames := 3, cells := 0, slots := 0, locals := 69 })).room s m args below meth c H locs 0 0 (MQ below (g_Qv D vwCl A z') args s 0 0 A) (F0 m 16 ls [])) : ∀ k : Nat, ∀ (a0b : Nat) (i1b : Int32) (i2b : Int32) (i3b : Int32) (i4b : Int32) (i5b : Int32) (i6b : Int32) (i7b : Int32) (z : gS) (H : Heap) (locs : List Loc) (ls : Array Slot), fRef_cover_L57 n k16 k a0b i1b i2b i3b i4b i5b i6b i7b z = some z' → g_W D vwCl A z s H → va_S A s.heap H locs → lv_has ls 11 [(0, .ref a0b), (1, .int i1b), (2, .int i2b), (3, .int i3b), (4, .int i4b), (5, .int i5b), (6, .int i6b), (7, .int i7b)] → W p l e (headSpec wsRef_cover ({ frames := 3, cells := 0, slots := 0, locals := 69 })).room s m args below meth c H locs 0 0 (MQ below (g_Qv D vwCl A z') args s 0 0 A) (F0 m 57 ls []) := by
  obtain ⟨hx, hb, hr, hml, hown, hts, hlocks, hK, hA⟩ := id C
  intro k
  induction k with
  | zero =>
    intro a0b i1b i2b i3b i4b i5b i6b i7b z H locs ls hf
    have hf : (none : Option (gS)) = some _ := hf
    cases hf
  | succ k ih =>
    intro a0b i1b i2b i3b i4b i5b i6b i7b z H locs ls hf hW hS hl
    rw [fRef_cover_L57] at hf
    refine lv_iload hx hb dRef_cover_57 (lv_at hl 7 rfl) ?_
    refine lv_aload_n hx hb dRef_cover_59 rfl (lv_at hl 0 rfl) ?_
    replace hf := g_bd hf
    obtain ⟨v_12, hv_12, hf⟩ := hf
    refine g_getI hx hb hts in_Ref hown hK hW (ci := 9) (C := "SecretRowsModel") (T := T_Ref) (N := 36) rfl (k := 3) (by decide) (hts _ kw_523) (fun _ h9 => h9) hv_12 dRef_cover_60 ?_
    refine lv_icmp_ge (tgt := 178) hx hb dRef_cover_63 (by decide) (fun c_13 => ?_) (fun c_13 => ?_)
    · replace hf := g_it c_13 hf
      refine lv_iload hx hb dRef_cover_178 (lv_at hl 4 rfl) ?_
      refine lv_if_eq (tgt := 186) hx hb dRef_cover_180 (by decide) (fun c_14 => ?_) (fun c_14 => ?_)
      · replace hf := g_it c_14 hf
        refine lv_iload hx hb dRef_cover_186 (lv_at hl 6 rfl) ?_
        refine lv_if_ne (tgt := 216) hx hb dRef_cover_188 (by decide) (fun c_15 => ?_) (fun c_15 => ?_)
        · replace hf := g_if c_15 hf
          refine lv_iconst (v := 0) hx hb dRef_cover_216 (by decide) ?_
          refine lv_istore (lv' := [(7, .int 0), (0, .ref a0b), (1, .int i1b), (2, .int i2b), (3, .int i3b), (4, .int i4b), (5, .int i5b), (6, .int i6b)]) hx hb dRef_cover_217 hl (by decide) rfl (fun _ hl1 => ?_)
          clear hl
          have hl := hl1
          clear hl1
          exact bRef_cover_219 C n hk16 n a0b i1b i2b i3b i4b i6b 0 _ _ _ _ hf hW hS (lv_sub hl [1, 2, 3, 4, 5, 7, 0] rfl)
        · replace hf := g_it c_15 hf
          refine lv_aload_n hx hb dRef_cover_191 rfl (lv_at hl 0 rfl) ?_
          refine lv_iload_n hx hb dRef_cover_192 rfl (lv_at hl 1 rfl) ?_
          refine lv_aload_n hx hb dRef_cover_193 rfl (lv_at hl 0 rfl) ?_
          replace hf := g_bd hf
          obtain ⟨r_16, hr_16, hf⟩ := hf
          refine g_getR hx hb hts in_Ref hown hK hW (ci := 9) (C := "SecretRowsModel") (T := T_Ref) (N := 36) rfl (k := 20) (by decide) (hts _ kw_540) (fun _ h9 => h9) hr_16 dRef_cover_194 ?_
          refine lv_iload hx hb dRef_cover_197 (lv_at hl 5 rfl) ?_
          replace hf := g_bd hf
          obtain ⟨a_17, ea_17, hf⟩ := hf
          subst ea_17
          refine W.eq (g2 := F0 m 199 _ [.int i5b, .ref a_17, .int i1b, .ref a0b]) rfl ?_
          replace hf := g_bd hf
          obtain ⟨v_18, hv_18, hf⟩ := hf
          refine g_ald_i hx hb hK hW hv_18 dRef_cover_199 ?_
          replace hf := g_bd hf
          obtain ⟨_, hi_19, hf⟩ := hf
          replace hf := g_bd hf
          obtain ⟨z_20, hz_20, hf⟩ := hf
          refine g_gov (g_rV (As := [.int i1b, .int v_18]) (rest := []) ⟨hx, hb, hml, hown, hts⟩ (mRef_tell l D A n _ _ a0b i1b v_18 hz_20) (cwV 2 hts (gi_V kw_711 kw_713 ks_Ref_tell kw_6 kw_714) rfl rfl rfl ⟨rfl, hdRef_tell⟩ ⟨Nat.le_of_ble_eq_true rfl, Nat.le_of_ble_eq_true rfl⟩) hK hW hS hA (ci := 9) (T := T_Ref) (N := 36) rfl hi_19 rfl hl.1 rfl (Nat.le_of_ble_eq_true rfl) dRef_cover_200 ⟨Nat.le_of_ble_eq_true rfl, Nat.le_of_ble_eq_true rfl⟩) hS (fun H locs hW hS => ?_)
          refine lv_aload_n hx hb dRef_cover_203 rfl (lv_at hl 0 rfl) ?_
          replace hf := g_bd hf
          obtain ⟨r_21, hr_21, hf⟩ := hf
          refine g_getR hx hb hts in_Ref hown hK hW (ci := 9) (C := "SecretRowsModel") (T := T_Ref) (N := 36) rfl (k := 22) (by decide) (hts _ kw_542) (fun _ h9 => h9) hr_21 dRef_cover_204 ?_
          refine lv_iload_n hx hb dRef_cover_207 rfl (lv_at hl 1 rfl) ?_
          refine lv_dup2_11 hx hb dRef_cover_208 rfl (g_cat _) ?_
          replace hf := g_bd hf
          obtain ⟨a_22, ea_22, hf⟩ := hf
          subst ea_22
          refine W.eq (g2 := F0 m 209 _ [.int i1b, .ref a_22, .int i1b, .ref a_22]) rfl ?_
          replace hf := g_bd hf
          obtain ⟨v_23, hv_23, hf⟩ := hf
          refine g_ald_i hx hb hK hW hv_23 dRef_cover_209 ?_
          refine lv_iconst (v := 1) hx hb dRef_cover_210 (by decide) ?_
          refine lv_iadd hx hb dRef_cover_211 ?_
          replace hf := g_bd hf
          obtain ⟨z_24, hz_24, hf⟩ := hf
          refine g_ast_i hx hb hW hS hz_24 dRef_cover_212 (fun H locs hW hS => ?_)
          refine lv_goto (tgt := 259) hx hb dRef_cover_213 (by decide) ?_
          refine lv_goto (tgt := 16) hx hb dRef_cover_259 (by decide) ?_
          exact hk16 a0b i1b i2b i3b i4b _ _ _ _ hf hW hS (lv_sub hl [0, 1, 2, 3, 4] rfl)
      · replace hf := g_if c_14 hf
        refine lv_goto (tgt := 16) hx hb dRef_cover_183 (by decide) ?_
        exact hk16 a0b i1b i2b i3b i4b _ _ _ _ hf hW hS (lv_sub hl [0, 1, 2, 3, 4] rfl)
    · replace hf := g_if c_13 hf
      refine lv_iconst (v := 0) hx hb dRef_cover_66 (by decide) ?_
      refine lv_istore (lv' := [(8, .int 0), (0, .ref a0b), (1, .int i1b), (2, .int i2b), (3, .int i3b), (4, .int i4b), (5, .int i5b), (6, .int i6b), (7, .int i7b)]) hx hb dRef_cover_67 hl (by decide) rfl (fun _ hl1 => ?_)
      clear hl
      have hl := hl1
      clear hl1
      exact bRef_cover_69 C n hk16 (fun a0b i1b i2b i3b i4b i5b i6b i7b => ih a0b i1b i2b i3b i4b i5b i6b i7b) n a0b i1b i2b i3b i4b i5b i6b i7b 0 _ _ _ _ hf hW hS (lv_sub hl [1, 2, 3, 4, 5, 6, 7, 8, 0] rfl)
def fRef_cover_L16 (n : Nat) : Nat → Nat → Int32 → Int32 → Int32 → Int32 → gS → Option (gS)
  | 0, _, _, _, _, _, _ => none
  | k + 1, a0b, i1b, i2b, i3b, i4b, z =>
    (g_fR z a0b 9 22).bind fun r_4 =>
    r_4.bind fun a_5 =>
    (g_ldI z .int a_5 i1b).bind fun v_6 =>
    if i3b ≤ ((300 * i1b) + v_6) then (
    some z)
    else (
    if i4b = 0 then (
    (g_fR z a0b 9 22).bind fun r_9 =>
    r_9.bind fun a_10 =>
    (g_ldI z .int a_10 i1b).bind fun v_11 =>
    fRef_cover_L57 n (fun a0b i1b i2b i3b i4b z => fRef_cover_L16 n k a0b i1b i2b i3b i4b z) n a0b i1b i2b i3b i4b ((300 * i1b) + v_11) 0 0 z)
    else (
    some z))
set_option maxHeartbeats 4000000 in
set_option maxRecDepth 100000 in
theorem bRef_cover_16 {p : Program} {l : Launch} {e : Env} {s : State} {m : MethodId} {args : Array Value} {below : List Frame} {meth : Method} {c : Code} {D : va_G} {A : Nat → Prop} (C : g_C p s m meth c args cRef_cover 11 none "SecretRowsModel" gW D vwCl gNN gOO A) (n : Nat) {z' : gS} : ∀ k : Nat, ∀ (a0b : Nat) (i1b : Int32) (i2b : Int32) (i3b : Int32) (i4b : Int32) (z : gS) (H : Heap) (locs : List Loc) (ls : Array Slot), fRef_cover_L16 n k a0b i1b i2b i3b i4b z = some z' → g_W D vwCl A z s H → va_S A s.heap H locs → lv_has ls 11 [(0, .ref a0b), (1, .int i1b), (2, .int i2b), (3, .int i3b), (4, .int i4b)] → W p l e (headSpec wsRef_cover ({ frames := 3, cells := 0, slots := 0, locals := 69 })).room s m args below meth c H locs 0 0 (MQ below (g_Qv D vwCl A z') args s 0 0 A) (F0 m 16 ls []) := by
  obtain ⟨hx, hb, hr, hml, hown, hts, hlocks, hK, hA⟩ := id C
  intro k
  induction k with
  | zero =>
    intro a0b i1b i2b i3b i4b z H locs ls hf
    have hf : (none : Option (gS)) = some _ := hf
    cases hf
  | succ k ih =>
    intro a0b i1b i2b i3b i4b z H locs ls hf hW hS hl
    rw [fRef_cover_L16] at hf
    refine lv_sipush (v := 300) hx hb dRef_cover_16 (by decide) ?_
    refine lv_iload_n hx hb dRef_cover_19 rfl (lv_at hl 1 rfl) ?_
    refine lv_imul hx hb dRef_cover_20 ?_
    refine lv_aload_n hx hb dRef_cover_21 rfl (lv_at hl 0 rfl) ?_
    replace hf := g_bd hf
    obtain ⟨r_4, hr_4, hf⟩ := hf
    refine g_getR hx hb hts in_Ref hown hK hW (ci := 9) (C := "SecretRowsModel") (T := T_Ref) (N := 36) rfl (k := 22) (by decide) (hts _ kw_542) (fun _ h9 => h9) hr_4 dRef_cover_22 ?_
    refine lv_iload_n hx hb dRef_cover_25 rfl (lv_at hl 1 rfl) ?_
    replace hf := g_bd hf
    obtain ⟨a_5, ea_5, hf⟩ := hf
    subst ea_5
    refine W.eq (g2 := F0 m 26 _ [.int i1b, .ref a_5, .int (300 * i1b)]) rfl ?_
    replace hf := g_bd hf
    obtain ⟨v_6, hv_6, hf⟩ := hf
    refine g_ald_i hx hb hK hW hv_6 dRef_cover_26 ?_
    refine lv_iadd hx hb dRef_cover_27 ?_
    refine lv_iload_n hx hb dRef_cover_28 rfl (lv_at hl 3 rfl) ?_
    refine lv_icmp_ge (tgt := 262) hx hb dRef_cover_29 (by decide) (fun c_7 => ?_) (fun c_7 => ?_)
    · replace hf := g_it c_7 hf
      cases hf
      exact g_retv hx hb hr hlocks hW hS (Nat.le_of_ble_eq_true rfl) (Nat.le_of_ble_eq_true rfl) dRef_cover_262
    · replace hf := g_if c_7 hf
      refine lv_iload hx hb dRef_cover_32 (lv_at hl 4 rfl) ?_
      refine lv_if_ne (tgt := 262) hx hb dRef_cover_34 (by decide) (fun c_8 => ?_) (fun c_8 => ?_)
      · replace hf := g_if c_8 hf
        cases hf
        exact g_retv hx hb hr hlocks hW hS (Nat.le_of_ble_eq_true rfl) (Nat.le_of_ble_eq_true rfl) dRef_cover_262
      · replace hf := g_it c_8 hf
        refine lv_sipush (v := 300) hx hb dRef_cover_37 (by decide) ?_
        refine lv_iload_n hx hb dRef_cover_40 rfl (lv_at hl 1 rfl) ?_
        refine lv_imul hx hb dRef_cover_41 ?_
        refine lv_aload_n hx hb dRef_cover_42 rfl (lv_at hl 0 rfl) ?_
        replace hf := g_bd hf
        obtain ⟨r_9, hr_9, hf⟩ := hf
        refine g_getR hx hb hts in_Ref hown hK hW (ci := 9) (C := "SecretRowsModel") (T := T_Ref) (N := 36) rfl (k := 22) (by decide) (hts _ kw_542) (fun _ h9 => h9) hr_9 dRef_cover_43 ?_
        refine lv_iload_n hx hb dRef_cover_46 rfl (lv_at hl 1 rfl) ?_
        replace hf := g_bd hf
        obtain ⟨a_10, ea_10, hf⟩ := hf
        subst ea_10
        refine W.eq (g2 := F0 m 47 _ [.int i1b, .ref a_10, .int (300 * i1b)]) rfl ?_
        replace hf := g_bd hf
        obtain ⟨v_11, hv_11, hf⟩ := hf
        refine g_ald_i hx hb hK hW hv_11 dRef_cover_47 ?_
        refine lv_iadd hx hb dRef_cover_48 ?_
        refine lv_istore (lv' := [(5, .int ((300 * i1b) + v_11)), (0, .ref a0b), (1, .int i1b), (2, .int i2b), (3, .int i3b), (4, .int i4b)]) hx hb dRef_cover_49 hl (by decide) rfl (fun _ hl1 => ?_)
        clear hl
        have hl := hl1
        clear hl1
        refine lv_iconst (v := 0) hx hb dRef_cover_51 (by decide) ?_
        refine lv_istore (lv' := [(6, .int 0), (5, .int ((300 * i1b) + v_11)), (0, .ref a0b), (1, .int i1b), (2, .int i2b), (3, .int i3b), (4, .int i4b)]) hx hb dRef_cover_52 hl (by decide) rfl (fun _ hl1 => ?_)
        clear hl
        have hl := hl1
        clear hl1
        refine lv_iconst (v := 0) hx hb dRef_cover_54 (by decide) ?_
        refine lv_istore (lv' := [(7, .int 0), (6, .int 0), (5, .int ((300 * i1b) + v_11)), (0, .ref a0b), (1, .int i1b), (2, .int i2b), (3, .int i3b), (4, .int i4b)]) hx hb dRef_cover_55 hl (by decide) rfl (fun _ hl1 => ?_)
        clear hl
        have hl := hl1
        clear hl1
        exact bRef_cover_57 C n (fun a0b i1b i2b i3b i4b => ih a0b i1b i2b i3b i4b) n a0b i1b i2b i3b i4b ((300 * i1b) + v_11) 0 0 _ _ _ _ hf hW hS (lv_sub hl [3, 4, 5, 6, 7, 2, 1, 0] rfl)
def fRef_cover (n : Nat) (a0 : Nat) (i1 : Int32) (i2 : Int32) (z : gS) : Option (gS) :=
    (g_fR z a0 9 21).bind fun r_1 =>
    r_1.bind fun a_2 =>
    (g_ldI z .int a_2 i1).bind fun v_3 =>
    fRef_cover_L16 n n a0 i1 i2 ((300 * i1) + v_3) 0 z
set_option maxHeartbeats 4000000 in
set_option maxRecDepth 100000 in
theorem mRef_cover (l : Launch) (D : va_G) (A : Nat → Prop) (n : Nat) (z z' : gS) (a0 : Nat) (i1 : Int32) (i2 : Int32) (hf : fRef_cover n a0 i1 i2 z = some z') : Met l yRef_cover wsRef_cover ({ frames := 3, cells := 0, slots := 0, locals := 69 }) (g_P D vwCl gNN gOO A z [.ref a0, .int i1, .int i2]) (g_Qv D vwCl A z') 0 0 A := by
  refine Met.ofW (cc := cRef_cover) (maxL := 11) (ret := none) (by decide) rfl ?_
  intro p e s m args below meth c s₁ B hml hv
  obtain ⟨rfl, hW, hK, hA0⟩ := hv
  have C : g_C p s m meth c _ cRef_cover 11 none "SecretRowsModel" gW D vwCl gNN gOO A := ⟨B.exec, B.bytes, B.returns, hml, findClass_of_methodNamed B.named, fun w hw => atoms_spec (ws := wsRef_cover) B.pre w (List.mem_cons_of_mem _ hw), B.notSynchronized, hK, fun q hq => hA0 q (by rw [← hW.1]; exact hq)⟩
  have hS : va_S A s.heap s.heap [] := va_S.rf
  have hl := lv_entry ([.ref a0, .int i1, .int i2]) (n := 11) (Nat.le_of_ble_eq_true rfl)
  rw [lg_entry_eq]
  generalize (lg_sl ([.ref a0, .int i1, .int i2]) ++ List.replicate (11 - (lg_sl ([.ref a0, .int i1, .int i2])).length) Slot.unset).toArray = ls at hl ⊢
  have hl : lv_has ls 11 [(0, .ref a0), (1, .int i1), (2, .int i2)] := hl
  obtain ⟨hx, hb, hr, hml, hown, hts, hlocks, hK, hA⟩ := id C
  unfold fRef_cover at hf
  refine lv_sipush (v := 300) hx hb dRef_cover_0 (by decide) ?_
  refine lv_iload_n hx hb dRef_cover_3 rfl (lv_at hl 1 rfl) ?_
  refine lv_imul hx hb dRef_cover_4 ?_
  refine lv_aload_n hx hb dRef_cover_5 rfl (lv_at hl 0 rfl) ?_
  replace hf := g_bd hf
  obtain ⟨r_1, hr_1, hf⟩ := hf
  refine g_getR hx hb hts in_Ref hown hK hW (ci := 9) (C := "SecretRowsModel") (T := T_Ref) (N := 36) rfl (k := 21) (by decide) (hts _ kw_541) (fun _ h9 => h9) hr_1 dRef_cover_6 ?_
  refine lv_iload_n hx hb dRef_cover_9 rfl (lv_at hl 1 rfl) ?_
  replace hf := g_bd hf
  obtain ⟨a_2, ea_2, hf⟩ := hf
  subst ea_2
  refine W.eq (g2 := F0 m 10 _ [.int i1, .ref a_2, .int (300 * i1)]) rfl ?_
  replace hf := g_bd hf
  obtain ⟨v_3, hv_3, hf⟩ := hf
  refine g_ald_i hx hb hK hW hv_3 dRef_cover_10 ?_
  refine lv_iadd hx hb dRef_cover_11 ?_
  refine lv_istore_n (lv' := [(3, .int ((300 * i1) + v_3)), (0, .ref a0), (1, .int i1), (2, .int i2)]) hx hb dRef_cover_12 rfl hl (by decide) rfl (fun _ hl1 => ?_)
  clear hl
  have hl := hl1
  clear hl1
  refine lv_iconst (v := 0) hx hb dRef_cover_13 (by decide) ?_
  refine lv_istore (lv' := [(4, .int 0), (3, .int ((300 * i1) + v_3)), (0, .ref a0), (1, .int i1), (2, .int i2)]) hx hb dRef_cover_14 hl (by decide) rfl (fun _ hl1 => ?_)
  clear hl
  have hl := hl1
  clear hl1
  exact bRef_cover_16 C n n a0 i1 i2 ((300 * i1) + v_3) 0 _ _ _ _ hf hW hS (lv_sub hl [2, 3, 4, 1, 0] rfl)

def fRef_log_L50 (n : Nat) : Nat → Nat → Int32 → Int32 → Int32 → gS → Option (Int32 × gS)
  | 0, _, _, _, _, _ => none
  | k + 1, a0b, i1b, i2b, i3b, z =>
    if i2b ≤ i3b then (
    some (i2b, z))
    else (
    (g_fR z a0b 9 20).bind fun r_17 =>
    (g_fR z a0b 9 21).bind fun r_18 =>
    r_18.bind fun a_19 =>
    (g_ldI z .int a_19 i1b).bind fun v_20 =>
    (g_fR z a0b 9 17).bind fun r_21 =>
    r_21.bind fun a_22 =>
    (g_ldI z .int a_22 i3b).bind fun v_23 =>
    r_17.bind fun a_24 =>
    (g_stI z .int a_24 ((300 * i1b) + v_20) v_23).bind fun z_25 =>
    (g_fR z_25 a0b 9 21).bind fun r_26 =>
    r_26.bind fun a_27 =>
    (g_ldI z_25 .int a_27 i1b).bind fun v_28 =>
    (g_stI z_25 .int a_27 i1b (v_28 + 1)).bind fun z_29 =>
    (g_is z_29 a0b 9).bind fun _ =>
    (fRef_cover n a0b i1b 0 z_29).bind fun z_31 =>
    fRef_log_L50 n k a0b i1b i2b (i3b + 1) z_31)
set_option maxHeartbeats 4000000 in
set_option maxRecDepth 100000 in
theorem bRef_log_50 {p : Program} {l : Launch} {e : Env} {s : State} {m : MethodId} {args : Array Value} {below : List Frame} {meth : Method} {c : Code} {D : va_G} {A : Nat → Prop} (C : g_C p s m meth c args cRef_log 4 (some .int) "SecretRowsModel" gW D vwCl gNN gOO A) (n : Nat) {r : Int32} {z' : gS} : ∀ k : Nat, ∀ (a0b : Nat) (i1b : Int32) (i2b : Int32) (i3b : Int32) (z : gS) (H : Heap) (locs : List Loc) (ls : Array Slot), fRef_log_L50 n k a0b i1b i2b i3b z = some (r, z') → g_W D vwCl A z s H → va_S A s.heap H locs → lv_has ls 4 [(0, .ref a0b), (1, .int i1b), (2, .int i2b), (3, .int i3b)] → W p l e (headSpec wsRef_log ({ frames := 4, cells := 0, slots := 0, locals := 99 })).room s m args below meth c H locs 0 0 (MQ below (g_Qi D vwCl A r z') args s 0 0 A) (F0 m 50 ls []) := by
  obtain ⟨hx, hb, hr, hml, hown, hts, hlocks, hK, hA⟩ := id C
  intro k
  induction k with
  | zero =>
    intro a0b i1b i2b i3b z H locs ls hf
    have hf : (none : Option (Int32 × gS)) = some _ := hf
    cases hf
  | succ k ih =>
    intro a0b i1b i2b i3b z H locs ls hf hW hS hl
    rw [fRef_log_L50] at hf
    refine lv_iload_n hx hb dRef_log_50 rfl (lv_at hl 3 rfl) ?_
    refine lv_iload_n hx hb dRef_log_51 rfl (lv_at hl 2 rfl) ?_
    refine lv_icmp_ge (tgt := 100) hx hb dRef_log_52 (by decide) (fun c_16 => ?_) (fun c_16 => ?_)
    · replace hf := g_it c_16 hf
      refine lv_iload_n hx hb dRef_log_100 rfl (lv_at hl 2 rfl) ?_
      cases hf
      exact g_reti hx hb hr hlocks hW hS (Nat.le_of_ble_eq_true rfl) (Nat.le_of_ble_eq_true rfl) dRef_log_101
    · replace hf := g_if c_16 hf
      refine lv_aload_n hx hb dRef_log_55 rfl (lv_at hl 0 rfl) ?_
      replace hf := g_bd hf
      obtain ⟨r_17, hr_17, hf⟩ := hf
      refine g_getR hx hb hts in_Ref hown hK hW (ci := 9) (C := "SecretRowsModel") (T := T_Ref) (N := 36) rfl (k := 20) (by decide) (hts _ kw_540) (fun _ h9 => h9) hr_17 dRef_log_56 ?_
      refine lv_sipush (v := 300) hx hb dRef_log_59 (by decide) ?_
      refine lv_iload_n hx hb dRef_log_62 rfl (lv_at hl 1 rfl) ?_
      refine lv_imul hx hb dRef_log_63 ?_
      refine lv_aload_n hx hb dRef_log_64 rfl (lv_at hl 0 rfl) ?_
      replace hf := g_bd hf
      obtain ⟨r_18, hr_18, hf⟩ := hf
      refine g_getR hx hb hts in_Ref hown hK hW (ci := 9) (C := "SecretRowsModel") (T := T_Ref) (N := 36) rfl (k := 21) (by decide) (hts _ kw_541) (fun _ h9 => h9) hr_18 dRef_log_65 ?_
      refine lv_iload_n hx hb dRef_log_68 rfl (lv_at hl 1 rfl) ?_
      replace hf := g_bd hf
      obtain ⟨a_19, ea_19, hf⟩ := hf
      subst ea_19
      refine W.eq (g2 := F0 m 69 _ [.int i1b, .ref a_19, .int (300 * i1b), va_rf r_17]) rfl ?_
      replace hf := g_bd hf
      obtain ⟨v_20, hv_20, hf⟩ := hf
      refine g_ald_i hx hb hK hW hv_20 dRef_log_69 ?_
      refine lv_iadd hx hb dRef_log_70 ?_
      refine lv_aload_n hx hb dRef_log_71 rfl (lv_at hl 0 rfl) ?_
      replace hf := g_bd hf
      obtain ⟨r_21, hr_21, hf⟩ := hf
      refine g_getR hx hb hts in_Ref hown hK hW (ci := 9) (C := "SecretRowsModel") (T := T_Ref) (N := 36) rfl (k := 17) (by decide) (hts _ kw_537) (fun _ h9 => h9) hr_21 dRef_log_72 ?_
      refine lv_iload_n hx hb dRef_log_75 rfl (lv_at hl 3 rfl) ?_
      replace hf := g_bd hf
      obtain ⟨a_22, ea_22, hf⟩ := hf
      subst ea_22
      refine W.eq (g2 := F0 m 76 _ [.int i3b, .ref a_22, .int ((300 * i1b) + v_20), va_rf r_17]) rfl ?_
      replace hf := g_bd hf
      obtain ⟨v_23, hv_23, hf⟩ := hf
      refine g_ald_i hx hb hK hW hv_23 dRef_log_76 ?_
      replace hf := g_bd hf
      obtain ⟨a_24, ea_24, hf⟩ := hf
      subst ea_24
      refine W.eq (g2 := F0 m 77 _ [.int v_23, .int ((300 * i1b) + v_20), .ref a_24]) rfl ?_
      replace hf := g_bd hf
      obtain ⟨z_25, hz_25, hf⟩ := hf
      refine g_ast_i hx hb hW hS hz_25 dRef_log_77 (fun H locs hW hS => ?_)
      refine lv_aload_n hx hb dRef_log_78 rfl (lv_at hl 0 rfl) ?_
      replace hf := g_bd hf
      obtain ⟨r_26, hr_26, hf⟩ := hf
      refine g_getR hx hb hts in_Ref hown hK hW (ci := 9) (C := "SecretRowsModel") (T := T_Ref) (N := 36) rfl (k := 21) (by decide) (hts _ kw_541) (fun _ h9 => h9) hr_26 dRef_log_79 ?_
      refine lv_iload_n hx hb dRef_log_82 rfl (lv_at hl 1 rfl) ?_
      refine lv_dup2_11 hx hb dRef_log_83 rfl (g_cat _) ?_
      replace hf := g_bd hf
      obtain ⟨a_27, ea_27, hf⟩ := hf
      subst ea_27
      refine W.eq (g2 := F0 m 84 _ [.int i1b, .ref a_27, .int i1b, .ref a_27]) rfl ?_
      replace hf := g_bd hf
      obtain ⟨v_28, hv_28, hf⟩ := hf
      refine g_ald_i hx hb hK hW hv_28 dRef_log_84 ?_
      refine lv_iconst (v := 1) hx hb dRef_log_85 (by decide) ?_
      refine lv_iadd hx hb dRef_log_86 ?_
      replace hf := g_bd hf
      obtain ⟨z_29, hz_29, hf⟩ := hf
      refine g_ast_i hx hb hW hS hz_29 dRef_log_87 (fun H locs hW hS => ?_)
      refine lv_aload_n hx hb dRef_log_88 rfl (lv_at hl 0 rfl) ?_
      refine lv_iload_n hx hb dRef_log_89 rfl (lv_at hl 1 rfl) ?_
      refine lv_iconst (v := 0) hx hb dRef_log_90 (by decide) ?_
      replace hf := g_bd hf
      obtain ⟨_, hi_30, hf⟩ := hf
      replace hf := g_bd hf
      obtain ⟨z_31, hz_31, hf⟩ := hf
      refine g_gov (g_rV (As := [.int i1b, .int 0]) (rest := []) ⟨hx, hb, hml, hown, hts⟩ (mRef_cover l D A n _ _ a0b i1b 0 hz_31) (cwV 2 hts (gi_V kw_688 kw_690 ks_Ref_cover kw_6 kw_691) rfl rfl rfl ⟨rfl, hdRef_cover⟩ ⟨Nat.le_of_ble_eq_true rfl, Nat.le_of_ble_eq_true rfl⟩) hK hW hS hA (ci := 9) (T := T_Ref) (N := 36) rfl hi_30 rfl hl.1 rfl (Nat.le_of_ble_eq_true rfl) dRef_log_91 ⟨Nat.le_of_ble_eq_true rfl, Nat.le_of_ble_eq_true rfl⟩) hS (fun H locs hW hS => ?_)
      refine lv_iinc (v := (i3b + 1)) (lv' := [(3, .int (i3b + 1)), (0, .ref a0b), (1, .int i1b), (2, .int i2b)]) hx hb dRef_log_94 hl (k := 3) rfl rfl (by decide) rfl (fun _ hl1 => ?_)
      clear hl
      have hl := hl1
      clear hl1
      refine lv_goto (tgt := 50) hx hb dRef_log_97 (by decide) ?_
      exact ih a0b i1b i2b (i3b + 1) _ _ _ _ hf hW hS (lv_sub hl [1, 2, 3, 0] rfl)
def fRef_log (n : Nat) (a0 : Nat) (i1 : Int32) (z : gS) : Option (Int32 × gS) :=
    (g_pF z a0 9 0 (.int 0)).bind fun z_1 =>
    (g_fI z_1 a0 9 18).bind fun v_2 =>
    (g_pF z_1 a0 9 18 (.int 0)).bind fun z_3 =>
    (g_is z_3 a0 9).bind fun _ =>
    g_bp (fRef_isStep n a0 i1 z_3) fun v_6 z_5 =>
    if v_6 = 0 then (
    some ((-1), z_5))
    else (
    (g_fR z_5 a0 9 26).bind fun r_8 =>
    r_8.bind fun a_9 =>
    (g_ldI z_5 .boolean a_9 i1).bind fun v_10 =>
    if v_10 = 0 then (
    (g_fR z_5 a0 9 21).bind fun r_12 =>
    r_12.bind fun a_13 =>
    (g_ldI z_5 .int a_13 i1).bind fun v_14 =>
    if (v_14 + v_2) ≤ 300 then (
    fRef_log_L50 n n a0 i1 v_2 0 z_5)
    else (
    some ((-1), z_5)))
    else (
    some ((-1), z_5)))
set_option maxHeartbeats 4000000 in
set_option maxRecDepth 100000 in
theorem mRef_log (l : Launch) (D : va_G) (A : Nat → Prop) (n : Nat) (z z' : gS) (a0 : Nat) (i1 : Int32) (r : Int32) (hf : fRef_log n a0 i1 z = some (r, z')) : Met l yRef_log wsRef_log ({ frames := 4, cells := 0, slots := 0, locals := 99 }) (g_P D vwCl gNN gOO A z [.ref a0, .int i1]) (g_Qi D vwCl A r z') 0 0 A := by
  refine Met.ofW (cc := cRef_log) (maxL := 4) (ret := (some .int)) (by decide) rfl ?_
  intro p e s m args below meth c s₁ B hml hv
  obtain ⟨rfl, hW, hK, hA0⟩ := hv
  have C : g_C p s m meth c _ cRef_log 4 (some .int) "SecretRowsModel" gW D vwCl gNN gOO A := ⟨B.exec, B.bytes, B.returns, hml, findClass_of_methodNamed B.named, fun w hw => atoms_spec (ws := wsRef_log) B.pre w (List.mem_cons_of_mem _ hw), B.notSynchronized, hK, fun q hq => hA0 q (by rw [← hW.1]; exact hq)⟩
  have hS : va_S A s.heap s.heap [] := va_S.rf
  have hl := lv_entry ([.ref a0, .int i1]) (n := 4) (Nat.le_of_ble_eq_true rfl)
  rw [lg_entry_eq]
  generalize (lg_sl ([.ref a0, .int i1]) ++ List.replicate (4 - (lg_sl ([.ref a0, .int i1])).length) Slot.unset).toArray = ls at hl ⊢
  have hl : lv_has ls 4 [(0, .ref a0), (1, .int i1)] := hl
  obtain ⟨hx, hb, hr, hml, hown, hts, hlocks, hK, hA⟩ := id C
  unfold fRef_log at hf
  refine lv_aload_n hx hb dRef_log_0 rfl (lv_at hl 0 rfl) ?_
  refine lv_iconst (v := 0) hx hb dRef_log_1 (by decide) ?_
  replace hf := g_bd hf
  obtain ⟨z_1, hz_1, hf⟩ := hf
  refine g_put hx hb hts in_Ref ty_Ref tyok_Ref nm_Ref hown hK hW hS (ci := 9) (C := "SecretRowsModel") (T := T_Ref) (N := 36) rfl (k := 0) (by decide) (hts _ kw_520) (fun _ h9 => h9) rfl (ty := .int) (by decide +kernel) rfl rfl hz_1 dRef_log_2 (fun H locs hW hS => ?_)
  refine lv_aload_n hx hb dRef_log_5 rfl (lv_at hl 0 rfl) ?_
  replace hf := g_bd hf
  obtain ⟨v_2, hv_2, hf⟩ := hf
  refine g_getI hx hb hts in_Ref hown hK hW (ci := 9) (C := "SecretRowsModel") (T := T_Ref) (N := 36) rfl (k := 18) (by decide) (hts _ kw_538) (fun _ h9 => h9) hv_2 dRef_log_6 ?_
  refine lv_istore_n (lv' := [(2, .int v_2), (0, .ref a0), (1, .int i1)]) hx hb dRef_log_9 rfl hl (by decide) rfl (fun _ hl1 => ?_)
  clear hl
  have hl := hl1
  clear hl1
  refine lv_aload_n hx hb dRef_log_10 rfl (lv_at hl 1 rfl) ?_
  refine lv_iconst (v := 0) hx hb dRef_log_11 (by decide) ?_
  replace hf := g_bd hf
  obtain ⟨z_3, hz_3, hf⟩ := hf
  refine g_put hx hb hts in_Ref ty_Ref tyok_Ref nm_Ref hown hK hW hS (ci := 9) (C := "SecretRowsModel") (T := T_Ref) (N := 36) rfl (k := 18) (by decide) (hts _ kw_538) (fun _ h9 => h9) rfl (ty := .int) (by decide +kernel) rfl rfl hz_3 dRef_log_12 (fun H locs hW hS => ?_)
  refine lv_aload_n hx hb dRef_log_15 rfl (lv_at hl 1 rfl) ?_
  refine lv_iload_n hx hb dRef_log_16 rfl (lv_at hl 2 rfl) ?_
  replace hf := g_bd hf
  obtain ⟨_, hi_4, hf⟩ := hf
  replace hf := g_bps hf
  obtain ⟨v_6, z_5, hz_5, hf⟩ := hf
  refine g_goi (g_rV (As := [.int i1]) (rest := []) ⟨hx, hb, hml, hown, hts⟩ (mRef_isStep l D A n _ _ a0 i1 _ hz_5) (cwV 1 hts (gi_V kw_672 kw_674 ks_Ref_isStep kw_6 kw_675) rfl rfl rfl ⟨rfl, hdRef_isStep⟩ ⟨Nat.le_of_ble_eq_true rfl, Nat.le_of_ble_eq_true rfl⟩) hK hW hS hA (ci := 9) (T := T_Ref) (N := 36) rfl hi_4 rfl hl.1 rfl (Nat.le_of_ble_eq_true rfl) dRef_log_17 ⟨Nat.le_of_ble_eq_true rfl, Nat.le_of_ble_eq_true rfl⟩) hS (fun H locs hW hS => ?_)
  refine lv_if_eq (tgt := 46) hx hb dRef_log_20 (by decide) (fun c_7 => ?_) (fun c_7 => ?_)
  · replace hf := g_it c_7 hf
    refine lv_iconst (v := (-1)) hx hb dRef_log_46 (by decide) ?_
    cases hf
    exact g_reti hx hb hr hlocks hW hS (Nat.le_of_ble_eq_true rfl) (Nat.le_of_ble_eq_true rfl) dRef_log_47
  · replace hf := g_if c_7 hf
    refine lv_aload_n hx hb dRef_log_23 rfl (lv_at hl 1 rfl) ?_
    replace hf := g_bd hf
    obtain ⟨r_8, hr_8, hf⟩ := hf
    refine g_getR hx hb hts in_Ref hown hK hW (ci := 9) (C := "SecretRowsModel") (T := T_Ref) (N := 36) rfl (k := 26) (by decide) (hts _ kw_546) (fun _ h9 => h9) hr_8 dRef_log_24 ?_
    refine lv_iload_n hx hb dRef_log_27 rfl (lv_at hl 2 rfl) ?_
    replace hf := g_bd hf
    obtain ⟨a_9, ea_9, hf⟩ := hf
    subst ea_9
    refine W.eq (g2 := F0 m 28 _ [.int i1, .ref a_9]) rfl ?_
    replace hf := g_bd hf
    obtain ⟨v_10, hv_10, hf⟩ := hf
    refine g_ald_z hx hb hK hW hv_10 dRef_log_28 ?_
    refine lv_if_ne (tgt := 46) hx hb dRef_log_29 (by decide) (fun c_11 => ?_) (fun c_11 => ?_)
    · replace hf := g_if c_11 hf
      refine lv_iconst (v := (-1)) hx hb dRef_log_46 (by decide) ?_
      cases hf
      exact g_reti hx hb hr hlocks hW hS (Nat.le_of_ble_eq_true rfl) (Nat.le_of_ble_eq_true rfl) dRef_log_47
    · replace hf := g_it c_11 hf
      refine lv_aload_n hx hb dRef_log_32 rfl (lv_at hl 1 rfl) ?_
      replace hf := g_bd hf
      obtain ⟨r_12, hr_12, hf⟩ := hf
      refine g_getR hx hb hts in_Ref hown hK hW (ci := 9) (C := "SecretRowsModel") (T := T_Ref) (N := 36) rfl (k := 21) (by decide) (hts _ kw_541) (fun _ h9 => h9) hr_12 dRef_log_33 ?_
      refine lv_iload_n hx hb dRef_log_36 rfl (lv_at hl 2 rfl) ?_
      replace hf := g_bd hf
      obtain ⟨a_13, ea_13, hf⟩ := hf
      subst ea_13
      refine W.eq (g2 := F0 m 37 _ [.int i1, .ref a_13]) rfl ?_
      replace hf := g_bd hf
      obtain ⟨v_14, hv_14, hf⟩ := hf
      refine g_ald_i hx hb hK hW hv_14 dRef_log_37 ?_
      refine lv_iload_n hx hb dRef_log_38 rfl (lv_at hl 0 rfl) ?_
      refine lv_iadd hx hb dRef_log_39 ?_
      refine lv_sipush (v := 300) hx hb dRef_log_40 (by decide) ?_
      refine lv_icmp_le (tgt := 48) hx hb dRef_log_43 (by decide) (fun c_15 => ?_) (fun c_15 => ?_)
      · replace hf := g_it c_15 hf
        refine lv_iconst (v := 0) hx hb dRef_log_48 (by decide) ?_
        refine lv_istore_n (lv' := [(3, .int 0), (2, .int v_2), (0, .ref a0), (1, .int i1)]) hx hb dRef_log_49 rfl hl (by decide) rfl (fun _ hl1 => ?_)
        clear hl
        have hl := hl1
        clear hl1
        exact bRef_log_50 C n n a0 i1 v_2 0 _ _ _ _ hf hW hS (lv_sub hl [2, 3, 1, 0] rfl)
      · replace hf := g_if c_15 hf
        refine lv_iconst (v := (-1)) hx hb dRef_log_46 (by decide) ?_
        cases hf
        exact g_reti hx hb hr hlocks hW hS (Nat.le_of_ble_eq_true rfl) (Nat.le_of_ble_eq_true rfl) dRef_log_47

def fRef_close (n : Nat) (a0 : Nat) (i1 : Int32) (z : gS) : Option (Int32 × gS) :=
    (g_pF z a0 9 0 (.int 0)).bind fun z_1 =>
    (g_is z_1 a0 9).bind fun _ =>
    g_bp (fRef_isStep n a0 i1 z_1) fun v_4 z_3 =>
    if v_4 = 0 then (
    some ((-1), z_3))
    else (
    (g_fR z_3 a0 9 26).bind fun r_6 =>
    r_6.bind fun a_7 =>
    (g_ldI z_3 .boolean a_7 i1).bind fun v_8 =>
    if v_8 = 0 then (
    (g_fR z_3 a0 9 26).bind fun r_10 =>
    r_10.bind fun a_11 =>
    (g_stI z_3 .boolean a_11 i1 (vp_nar .boolean 1)).bind fun z_12 =>
    (g_is z_12 a0 9).bind fun _ =>
    (fRef_cover n a0 i1 1 z_12).bind fun z_14 =>
    (g_fR z_14 a0 9 24).bind fun r_15 =>
    r_15.bind fun a_16 =>
    (g_ldI z_14 .int a_16 i1).bind fun v_17 =>
    some (v_17, z_14))
    else (
    some ((-1), z_3)))
set_option maxHeartbeats 4000000 in
set_option maxRecDepth 100000 in
theorem mRef_close (l : Launch) (D : va_G) (A : Nat → Prop) (n : Nat) (z z' : gS) (a0 : Nat) (i1 : Int32) (r : Int32) (hf : fRef_close n a0 i1 z = some (r, z')) : Met l yRef_close wsRef_close ({ frames := 4, cells := 0, slots := 0, locals := 99 }) (g_P D vwCl gNN gOO A z [.ref a0, .int i1]) (g_Qi D vwCl A r z') 0 0 A := by
  refine Met.ofW (cc := cRef_close) (maxL := 2) (ret := (some .int)) (by decide) rfl ?_
  intro p e s m args below meth c s₁ B hml hv
  obtain ⟨rfl, hW, hK, hA0⟩ := hv
  have C : g_C p s m meth c _ cRef_close 2 (some .int) "SecretRowsModel" gW D vwCl gNN gOO A := ⟨B.exec, B.bytes, B.returns, hml, findClass_of_methodNamed B.named, fun w hw => atoms_spec (ws := wsRef_close) B.pre w (List.mem_cons_of_mem _ hw), B.notSynchronized, hK, fun q hq => hA0 q (by rw [← hW.1]; exact hq)⟩
  have hS : va_S A s.heap s.heap [] := va_S.rf
  have hl := lv_entry ([.ref a0, .int i1]) (n := 2) (Nat.le_of_ble_eq_true rfl)
  rw [lg_entry_eq]
  generalize (lg_sl ([.ref a0, .int i1]) ++ List.replicate (2 - (lg_sl ([.ref a0, .int i1])).length) Slot.unset).toArray = ls at hl ⊢
  have hl : lv_has ls 2 [(0, .ref a0), (1, .int i1)] := hl
  obtain ⟨hx, hb, hr, hml, hown, hts, hlocks, hK, hA⟩ := id C
  unfold fRef_close at hf
  refine lv_aload_n hx hb dRef_close_0 rfl (lv_at hl 0 rfl) ?_
  refine lv_iconst (v := 0) hx hb dRef_close_1 (by decide) ?_
  replace hf := g_bd hf
  obtain ⟨z_1, hz_1, hf⟩ := hf
  refine g_put hx hb hts in_Ref ty_Ref tyok_Ref nm_Ref hown hK hW hS (ci := 9) (C := "SecretRowsModel") (T := T_Ref) (N := 36) rfl (k := 0) (by decide) (hts _ kw_520) (fun _ h9 => h9) rfl (ty := .int) (by decide +kernel) rfl rfl hz_1 dRef_close_2 (fun H locs hW hS => ?_)
  refine lv_aload_n hx hb dRef_close_5 rfl (lv_at hl 0 rfl) ?_
  refine lv_iload_n hx hb dRef_close_6 rfl (lv_at hl 1 rfl) ?_
  replace hf := g_bd hf
  obtain ⟨_, hi_2, hf⟩ := hf
  replace hf := g_bps hf
  obtain ⟨v_4, z_3, hz_3, hf⟩ := hf
  refine g_goi (g_rV (As := [.int i1]) (rest := []) ⟨hx, hb, hml, hown, hts⟩ (mRef_isStep l D A n _ _ a0 i1 _ hz_3) (cwV 1 hts (gi_V kw_672 kw_674 ks_Ref_isStep kw_6 kw_675) rfl rfl rfl ⟨rfl, hdRef_isStep⟩ ⟨Nat.le_of_ble_eq_true rfl, Nat.le_of_ble_eq_true rfl⟩) hK hW hS hA (ci := 9) (T := T_Ref) (N := 36) rfl hi_2 rfl hl.1 rfl (Nat.le_of_ble_eq_true rfl) dRef_close_7 ⟨Nat.le_of_ble_eq_true rfl, Nat.le_of_ble_eq_true rfl⟩) hS (fun H locs hW hS => ?_)
  refine lv_if_eq (tgt := 22) hx hb dRef_close_10 (by decide) (fun c_5 => ?_) (fun c_5 => ?_)
  · replace hf := g_it c_5 hf
    refine lv_iconst (v := (-1)) hx hb dRef_close_22 (by decide) ?_
    cases hf
    exact g_reti hx hb hr hlocks hW hS (Nat.le_of_ble_eq_true rfl) (Nat.le_of_ble_eq_true rfl) dRef_close_23
  · replace hf := g_if c_5 hf
    refine lv_aload_n hx hb dRef_close_13 rfl (lv_at hl 0 rfl) ?_
    replace hf := g_bd hf
    obtain ⟨r_6, hr_6, hf⟩ := hf
    refine g_getR hx hb hts in_Ref hown hK hW (ci := 9) (C := "SecretRowsModel") (T := T_Ref) (N := 36) rfl (k := 26) (by decide) (hts _ kw_546) (fun _ h9 => h9) hr_6 dRef_close_14 ?_
    refine lv_iload_n hx hb dRef_close_17 rfl (lv_at hl 1 rfl) ?_
    replace hf := g_bd hf
    obtain ⟨a_7, ea_7, hf⟩ := hf
    subst ea_7
    refine W.eq (g2 := F0 m 18 _ [.int i1, .ref a_7]) rfl ?_
    replace hf := g_bd hf
    obtain ⟨v_8, hv_8, hf⟩ := hf
    refine g_ald_z hx hb hK hW hv_8 dRef_close_18 ?_
    refine lv_if_eq (tgt := 24) hx hb dRef_close_19 (by decide) (fun c_9 => ?_) (fun c_9 => ?_)
    · replace hf := g_it c_9 hf
      refine lv_aload_n hx hb dRef_close_24 rfl (lv_at hl 0 rfl) ?_
      replace hf := g_bd hf
      obtain ⟨r_10, hr_10, hf⟩ := hf
      refine g_getR hx hb hts in_Ref hown hK hW (ci := 9) (C := "SecretRowsModel") (T := T_Ref) (N := 36) rfl (k := 26) (by decide) (hts _ kw_546) (fun _ h9 => h9) hr_10 dRef_close_25 ?_
      refine lv_iload_n hx hb dRef_close_28 rfl (lv_at hl 1 rfl) ?_
      refine lv_iconst (v := 1) hx hb dRef_close_29 (by decide) ?_
      replace hf := g_bd hf
      obtain ⟨a_11, ea_11, hf⟩ := hf
      subst ea_11
      refine W.eq (g2 := F0 m 30 _ [.int 1, .int i1, .ref a_11]) rfl ?_
      replace hf := g_bd hf
      obtain ⟨z_12, hz_12, hf⟩ := hf
      refine g_ast_z hx hb hW hS hz_12 dRef_close_30 (fun H locs hW hS => ?_)
      refine lv_aload_n hx hb dRef_close_31 rfl (lv_at hl 0 rfl) ?_
      refine lv_iload_n hx hb dRef_close_32 rfl (lv_at hl 1 rfl) ?_
      refine lv_iconst (v := 1) hx hb dRef_close_33 (by decide) ?_
      replace hf := g_bd hf
      obtain ⟨_, hi_13, hf⟩ := hf
      replace hf := g_bd hf
      obtain ⟨z_14, hz_14, hf⟩ := hf
      refine g_gov (g_rV (As := [.int i1, .int 1]) (rest := []) ⟨hx, hb, hml, hown, hts⟩ (mRef_cover l D A n _ _ a0 i1 1 hz_14) (cwV 2 hts (gi_V kw_688 kw_690 ks_Ref_cover kw_6 kw_691) rfl rfl rfl ⟨rfl, hdRef_cover⟩ ⟨Nat.le_of_ble_eq_true rfl, Nat.le_of_ble_eq_true rfl⟩) hK hW hS hA (ci := 9) (T := T_Ref) (N := 36) rfl hi_13 rfl hl.1 rfl (Nat.le_of_ble_eq_true rfl) dRef_close_34 ⟨Nat.le_of_ble_eq_true rfl, Nat.le_of_ble_eq_true rfl⟩) hS (fun H locs hW hS => ?_)
      refine lv_aload_n hx hb dRef_close_37 rfl (lv_at hl 0 rfl) ?_
      replace hf := g_bd hf
      obtain ⟨r_15, hr_15, hf⟩ := hf
      refine g_getR hx hb hts in_Ref hown hK hW (ci := 9) (C := "SecretRowsModel") (T := T_Ref) (N := 36) rfl (k := 24) (by decide) (hts _ kw_544) (fun _ h9 => h9) hr_15 dRef_close_38 ?_
      refine lv_iload_n hx hb dRef_close_41 rfl (lv_at hl 1 rfl) ?_
      replace hf := g_bd hf
      obtain ⟨a_16, ea_16, hf⟩ := hf
      subst ea_16
      refine W.eq (g2 := F0 m 42 _ [.int i1, .ref a_16]) rfl ?_
      replace hf := g_bd hf
      obtain ⟨v_17, hv_17, hf⟩ := hf
      refine g_ald_i hx hb hK hW hv_17 dRef_close_42 ?_
      cases hf
      exact g_reti hx hb hr hlocks hW hS (Nat.le_of_ble_eq_true rfl) (Nat.le_of_ble_eq_true rfl) dRef_close_43
    · replace hf := g_if c_9 hf
      refine lv_iconst (v := (-1)) hx hb dRef_close_22 (by decide) ?_
      cases hf
      exact g_reti hx hb hr hlocks hW hS (Nat.le_of_ble_eq_true rfl) (Nat.le_of_ble_eq_true rfl) dRef_close_23
