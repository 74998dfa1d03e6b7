theorem dRef_init_0 : decode cRef_init 0 = .ok (.aload_n 0, 1) := by decide +kernel
theorem dRef_init_1 : decode cRef_init 1 = .ok (.invokespecial 1, 3) := by decide +kernel
theorem dRef_init_4 : decode cRef_init 4 = .ok (.aload_n 0, 1) := by decide +kernel
theorem dRef_init_5 : decode cRef_init 5 = .ok (.bipush 24, 2) := by decide +kernel
theorem dRef_init_7 : decode cRef_init 7 = .ok (.newarray .int, 2) := by decide +kernel
theorem dRef_init_9 : decode cRef_init 9 = .ok (.putfield 7, 3) := by decide +kernel
theorem dRef_init_12 : decode cRef_init 12 = .ok (.aload_n 0, 1) := by decide +kernel
theorem dRef_init_13 : decode cRef_init 13 = .ok (.bipush 24, 2) := by decide +kernel
theorem dRef_init_15 : decode cRef_init 15 = .ok (.newarray .int, 2) := by decide +kernel
theorem dRef_init_17 : decode cRef_init 17 = .ok (.putfield 13, 3) := by decide +kernel
theorem dRef_init_20 : decode cRef_init 20 = .ok (.aload_n 0, 1) := by decide +kernel
theorem dRef_init_21 : decode cRef_init 21 = .ok (.sipush 288, 3) := by decide +kernel
theorem dRef_init_24 : decode cRef_init 24 = .ok (.newarray .int, 2) := by decide +kernel
theorem dRef_init_26 : decode cRef_init 26 = .ok (.putfield 16, 3) := by decide +kernel
theorem dRef_init_29 : decode cRef_init 29 = .ok (.aload_n 0, 1) := by decide +kernel
theorem dRef_init_30 : decode cRef_init 30 = .ok (.bipush 10, 2) := by decide +kernel
theorem dRef_init_32 : decode cRef_init 32 = .ok (.newarray .int, 2) := by decide +kernel
theorem dRef_init_34 : decode cRef_init 34 = .ok (.putfield 19, 3) := by decide +kernel
theorem dRef_init_37 : decode cRef_init 37 = .ok (.aload_n 0, 1) := by decide +kernel
theorem dRef_init_38 : decode cRef_init 38 = .ok (.bipush 10, 2) := by decide +kernel
theorem dRef_init_40 : decode cRef_init 40 = .ok (.newarray .int, 2) := by decide +kernel
theorem dRef_init_42 : decode cRef_init 42 = .ok (.putfield 22, 3) := by decide +kernel
theorem dRef_init_45 : decode cRef_init 45 = .ok (.aload_n 0, 1) := by decide +kernel
theorem dRef_init_46 : decode cRef_init 46 = .ok (.bipush 10, 2) := by decide +kernel
theorem dRef_init_48 : decode cRef_init 48 = .ok (.newarray .int, 2) := by decide +kernel
theorem dRef_init_50 : decode cRef_init 50 = .ok (.putfield 25, 3) := by decide +kernel
theorem dRef_init_53 : decode cRef_init 53 = .ok (.aload_n 0, 1) := by decide +kernel
theorem dRef_init_54 : decode cRef_init 54 = .ok (.bipush 10, 2) := by decide +kernel
theorem dRef_init_56 : decode cRef_init 56 = .ok (.newarray .int, 2) := by decide +kernel
theorem dRef_init_58 : decode cRef_init 58 = .ok (.putfield 28, 3) := by decide +kernel
theorem dRef_init_61 : decode cRef_init 61 = .ok (.aload_n 0, 1) := by decide +kernel
theorem dRef_init_62 : decode cRef_init 62 = .ok (.bipush 10, 2) := by decide +kernel
theorem dRef_init_64 : decode cRef_init 64 = .ok (.newarray .int, 2) := by decide +kernel
theorem dRef_init_66 : decode cRef_init 66 = .ok (.putfield 31, 3) := by decide +kernel
theorem dRef_init_69 : decode cRef_init 69 = .ok (.aload_n 0, 1) := by decide +kernel
theorem dRef_init_70 : decode cRef_init 70 = .ok (.bipush 10, 2) := by decide +kernel
theorem dRef_init_72 : decode cRef_init 72 = .ok (.newarray .int, 2) := by decide +kernel
theorem dRef_init_74 : decode cRef_init 74 = .ok (.putfield 34, 3) := by decide +kernel
theorem dRef_init_77 : decode cRef_init 77 = .ok (.aload_n 0, 1) := by decide +kernel
theorem dRef_init_78 : decode cRef_init 78 = .ok (.bipush 10, 2) := by decide +kernel
theorem dRef_init_80 : decode cRef_init 80 = .ok (.newarray .boolean, 2) := by decide +kernel
theorem dRef_init_82 : decode cRef_init 82 = .ok (.putfield 37, 3) := by decide +kernel
theorem dRef_init_85 : decode cRef_init 85 = .ok (.aload_n 0, 1) := by decide +kernel
theorem dRef_init_86 : decode cRef_init 86 = .ok (.sipush 300, 3) := by decide +kernel
theorem dRef_init_89 : decode cRef_init 89 = .ok (.newarray .int, 2) := by decide +kernel
theorem dRef_init_91 : decode cRef_init 91 = .ok (.putfield 41, 3) := by decide +kernel
theorem dRef_init_94 : decode cRef_init 94 = .ok (.aload_n 0, 1) := by decide +kernel
theorem dRef_init_95 : decode cRef_init 95 = .ok (.bipush 120, 2) := by decide +kernel
theorem dRef_init_97 : decode cRef_init 97 = .ok (.newarray .int, 2) := by decide +kernel
theorem dRef_init_99 : decode cRef_init 99 = .ok (.putfield 44, 3) := by decide +kernel
theorem dRef_init_102 : decode cRef_init 102 = .ok (.aload_n 0, 1) := by decide +kernel
theorem dRef_init_103 : decode cRef_init 103 = .ok (.sipush 3600, 3) := by decide +kernel
theorem dRef_init_106 : decode cRef_init 106 = .ok (.newarray .int, 2) := by decide +kernel
theorem dRef_init_108 : decode cRef_init 108 = .ok (.putfield 47, 3) := by decide +kernel
theorem dRef_init_111 : decode cRef_init 111 = .ok (.aload_n 0, 1) := by decide +kernel
theorem dRef_init_112 : decode cRef_init 112 = .ok (.bipush 12, 2) := by decide +kernel
theorem dRef_init_114 : decode cRef_init 114 = .ok (.newarray .int, 2) := by decide +kernel
theorem dRef_init_116 : decode cRef_init 116 = .ok (.putfield 50, 3) := by decide +kernel
theorem dRef_init_119 : decode cRef_init 119 = .ok (.aload_n 0, 1) := by decide +kernel
theorem dRef_init_120 : decode cRef_init 120 = .ok (.bipush 12, 2) := by decide +kernel
theorem dRef_init_122 : decode cRef_init 122 = .ok (.newarray .int, 2) := by decide +kernel
theorem dRef_init_124 : decode cRef_init 124 = .ok (.putfield 53, 3) := by decide +kernel
theorem dRef_init_127 : decode cRef_init 127 = .ok (.aload_n 0, 1) := by decide +kernel
theorem dRef_init_128 : decode cRef_init 128 = .ok (.sipush 3600, 3) := by decide +kernel
theorem dRef_init_131 : decode cRef_init 131 = .ok (.newarray .int, 2) := by decide +kernel
theorem dRef_init_133 : decode cRef_init 133 = .ok (.putfield 56, 3) := by decide +kernel
theorem dRef_init_136 : decode cRef_init 136 = .ok (.aload_n 0, 1) := by decide +kernel
theorem dRef_init_137 : decode cRef_init 137 = .ok (.bipush 12, 2) := by decide +kernel
theorem dRef_init_139 : decode cRef_init 139 = .ok (.newarray .int, 2) := by decide +kernel
theorem dRef_init_141 : decode cRef_init 141 = .ok (.putfield 59, 3) := by decide +kernel
theorem dRef_init_144 : decode cRef_init 144 = .ok (.aload_n 0, 1) := by decide +kernel
theorem dRef_init_145 : decode cRef_init 145 = .ok (.bipush 12, 2) := by decide +kernel
theorem dRef_init_147 : decode cRef_init 147 = .ok (.newarray .int, 2) := by decide +kernel
theorem dRef_init_149 : decode cRef_init 149 = .ok (.putfield 62, 3) := by decide +kernel
theorem dRef_init_152 : decode cRef_init 152 = .ok (.aload_n 0, 1) := by decide +kernel
theorem dRef_init_153 : decode cRef_init 153 = .ok (.bipush 12, 2) := by decide +kernel
theorem dRef_init_155 : decode cRef_init 155 = .ok (.newarray .boolean, 2) := by decide +kernel
theorem dRef_init_157 : decode cRef_init 157 = .ok (.putfield 65, 3) := by decide +kernel
theorem dRef_init_160 : decode cRef_init 160 = .ok (.aload_n 0, 1) := by decide +kernel
theorem dRef_init_161 : decode cRef_init 161 = .ok (.sipush 200, 3) := by decide +kernel
theorem dRef_init_164 : decode cRef_init 164 = .ok (.newarray .int, 2) := by decide +kernel
theorem dRef_init_166 : decode cRef_init 166 = .ok (.putfield 68, 3) := by decide +kernel
theorem dRef_init_169 : decode cRef_init 169 = .ok (.aload_n 0, 1) := by decide +kernel
theorem dRef_init_170 : decode cRef_init 170 = .ok (.sipush 200, 3) := by decide +kernel
theorem dRef_init_173 : decode cRef_init 173 = .ok (.newarray .int, 2) := by decide +kernel
theorem dRef_init_175 : decode cRef_init 175 = .ok (.putfield 71, 3) := by decide +kernel
theorem dRef_init_178 : decode cRef_init 178 = .ok (.aload_n 0, 1) := by decide +kernel
theorem dRef_init_179 : decode cRef_init 179 = .ok (.sipush 200, 3) := by decide +kernel
theorem dRef_init_182 : decode cRef_init 182 = .ok (.newarray .int, 2) := by decide +kernel
theorem dRef_init_184 : decode cRef_init 184 = .ok (.putfield 74, 3) := by decide +kernel
theorem dRef_init_187 : decode cRef_init 187 = .ok (.aload_n 0, 1) := by decide +kernel
theorem dRef_init_188 : decode cRef_init 188 = .ok (.bipush 20, 2) := by decide +kernel
theorem dRef_init_190 : decode cRef_init 190 = .ok (.newarray .int, 2) := by decide +kernel
theorem dRef_init_192 : decode cRef_init 192 = .ok (.putfield 77, 3) := by decide +kernel
theorem dRef_init_195 : decode cRef_init 195 = .ok (.aload_n 0, 1) := by decide +kernel
theorem dRef_init_196 : decode cRef_init 196 = .ok (.bipush 20, 2) := by decide +kernel
theorem dRef_init_198 : decode cRef_init 198 = .ok (.newarray .int, 2) := by decide +kernel
theorem dRef_init_200 : decode cRef_init 200 = .ok (.putfield 80, 3) := by decide +kernel
theorem dRef_init_203 : decode cRef_init 203 = .ok (.aload_n 0, 1) := by decide +kernel
theorem dRef_init_204 : decode cRef_init 204 = .ok (.bipush 20, 2) := by decide +kernel
theorem dRef_init_206 : decode cRef_init 206 = .ok (.newarray .int, 2) := by decide +kernel
theorem dRef_init_208 : decode cRef_init 208 = .ok (.putfield 83, 3) := by decide +kernel
theorem dRef_init_211 : decode cRef_init 211 = .ok (.aload_n 0, 1) := by decide +kernel
theorem dRef_init_212 : decode cRef_init 212 = .ok (.iconst (-1), 1) := by decide +kernel
theorem dRef_init_213 : decode cRef_init 213 = .ok (.putfield 86, 3) := by decide +kernel
theorem dRef_init_216 : decode cRef_init 216 = .ok (.return_, 1) := by decide +kernel
theorem dRef_isSecret_0 : decode cRef_isSecret 0 = .ok (.iload_n 1, 1) := by decide +kernel
theorem dRef_isSecret_1 : decode cRef_isSecret 1 = .ok (.ifCond .lt 15, 3) := by decide +kernel
theorem dRef_isSecret_4 : decode cRef_isSecret 4 = .ok (.iload_n 1, 1) := by decide +kernel
theorem dRef_isSecret_5 : decode cRef_isSecret 5 = .ok (.aload_n 0, 1) := by decide +kernel
theorem dRef_isSecret_6 : decode cRef_isSecret 6 = .ok (.getfield 93, 3) := by decide +kernel
theorem dRef_isSecret_9 : decode cRef_isSecret 9 = .ok (.if_icmp .ge 7, 3) := by decide +kernel
theorem dRef_isSecret_12 : decode cRef_isSecret 12 = .ok (.iconst 1, 1) := by decide +kernel
theorem dRef_isSecret_13 : decode cRef_isSecret 13 = .ok (.goto 4, 3) := by decide +kernel
theorem dRef_isSecret_16 : decode cRef_isSecret 16 = .ok (.iconst 0, 1) := by decide +kernel
theorem dRef_isSecret_17 : decode cRef_isSecret 17 = .ok (.ireturn, 1) := by decide +kernel
theorem dRef_isStep_0 : decode cRef_isStep 0 = .ok (.iload_n 1, 1) := by decide +kernel
theorem dRef_isStep_1 : decode cRef_isStep 1 = .ok (.ifCond .lt 15, 3) := by decide +kernel
theorem dRef_isStep_4 : decode cRef_isStep 4 = .ok (.iload_n 1, 1) := by decide +kernel
theorem dRef_isStep_5 : decode cRef_isStep 5 = .ok (.aload_n 0, 1) := by decide +kernel
theorem dRef_isStep_6 : decode cRef_isStep 6 = .ok (.getfield 96, 3) := by decide +kernel
theorem dRef_isStep_9 : decode cRef_isStep 9 = .ok (.if_icmp .ge 7, 3) := by decide +kernel
theorem dRef_isStep_12 : decode cRef_isStep 12 = .ok (.iconst 1, 1) := by decide +kernel
theorem dRef_isStep_13 : decode cRef_isStep 13 = .ok (.goto 4, 3) := by decide +kernel
theorem dRef_isStep_16 : decode cRef_isStep 16 = .ok (.iconst 0, 1) := by decide +kernel
theorem dRef_isStep_17 : decode cRef_isStep 17 = .ok (.ireturn, 1) := by decide +kernel
theorem dRef_secret_0 : decode cRef_secret 0 = .ok (.aload_n 0, 1) := by decide +kernel
theorem dRef_secret_1 : decode cRef_secret 1 = .ok (.iconst 0, 1) := by decide +kernel
theorem dRef_secret_2 : decode cRef_secret 2 = .ok (.putfield 90, 3) := by decide +kernel
theorem dRef_secret_5 : decode cRef_secret 5 = .ok (.aload_n 0, 1) := by decide +kernel
theorem dRef_secret_6 : decode cRef_secret 6 = .ok (.getfield 93, 3) := by decide +kernel
theorem dRef_secret_9 : decode cRef_secret 9 = .ok (.bipush 10, 2) := by decide +kernel
theorem dRef_secret_11 : decode cRef_secret 11 = .ok (.if_icmp .ne 5, 3) := by decide +kernel
theorem dRef_secret_14 : decode cRef_secret 14 = .ok (.iconst (-1), 1) := by decide +kernel
theorem dRef_secret_15 : decode cRef_secret 15 = .ok (.ireturn, 1) := by decide +kernel
theorem dRef_secret_16 : decode cRef_secret 16 = .ok (.aload_n 0, 1) := by decide +kernel
theorem dRef_secret_17 : decode cRef_secret 17 = .ok (.getfield 19, 3) := by decide +kernel
theorem dRef_secret_20 : decode cRef_secret 20 = .ok (.aload_n 0, 1) := by decide +kernel
theorem dRef_secret_21 : decode cRef_secret 21 = .ok (.getfield 93, 3) := by decide +kernel
theorem dRef_secret_24 : decode cRef_secret 24 = .ok (.iload_n 1, 1) := by decide +kernel
theorem dRef_secret_25 : decode cRef_secret 25 = .ok (.iastore, 1) := by decide +kernel
theorem dRef_secret_26 : decode cRef_secret 26 = .ok (.aload_n 0, 1) := by decide +kernel
theorem dRef_secret_27 : decode cRef_secret 27 = .ok (.getfield 22, 3) := by decide +kernel
theorem dRef_secret_30 : decode cRef_secret 30 = .ok (.aload_n 0, 1) := by decide +kernel
theorem dRef_secret_31 : decode cRef_secret 31 = .ok (.getfield 93, 3) := by decide +kernel
theorem dRef_secret_34 : decode cRef_secret 34 = .ok (.iload_n 2, 1) := by decide +kernel
theorem dRef_secret_35 : decode cRef_secret 35 = .ok (.iastore, 1) := by decide +kernel
theorem dRef_secret_36 : decode cRef_secret 36 = .ok (.aload_n 0, 1) := by decide +kernel
theorem dRef_secret_37 : decode cRef_secret 37 = .ok (.getfield 25, 3) := by decide +kernel
theorem dRef_secret_40 : decode cRef_secret 40 = .ok (.aload_n 0, 1) := by decide +kernel
theorem dRef_secret_41 : decode cRef_secret 41 = .ok (.getfield 93, 3) := by decide +kernel
theorem dRef_secret_44 : decode cRef_secret 44 = .ok (.iload_n 3, 1) := by decide +kernel
theorem dRef_secret_45 : decode cRef_secret 45 = .ok (.iastore, 1) := by decide +kernel
theorem dRef_secret_46 : decode cRef_secret 46 = .ok (.aload_n 0, 1) := by decide +kernel
theorem dRef_secret_47 : decode cRef_secret 47 = .ok (.getfield 28, 3) := by decide +kernel
theorem dRef_secret_50 : decode cRef_secret 50 = .ok (.aload_n 0, 1) := by decide +kernel
theorem dRef_secret_51 : decode cRef_secret 51 = .ok (.getfield 93, 3) := by decide +kernel
theorem dRef_secret_54 : decode cRef_secret 54 = .ok (.iconst (-1), 1) := by decide +kernel
theorem dRef_secret_55 : decode cRef_secret 55 = .ok (.iastore, 1) := by decide +kernel
theorem dRef_secret_56 : decode cRef_secret 56 = .ok (.aload_n 0, 1) := by decide +kernel
theorem dRef_secret_57 : decode cRef_secret 57 = .ok (.getfield 31, 3) := by decide +kernel
theorem dRef_secret_60 : decode cRef_secret 60 = .ok (.aload_n 0, 1) := by decide +kernel
theorem dRef_secret_61 : decode cRef_secret 61 = .ok (.getfield 93, 3) := by decide +kernel
theorem dRef_secret_64 : decode cRef_secret 64 = .ok (.iconst (-1), 1) := by decide +kernel
theorem dRef_secret_65 : decode cRef_secret 65 = .ok (.iastore, 1) := by decide +kernel
theorem dRef_secret_66 : decode cRef_secret 66 = .ok (.aload_n 0, 1) := by decide +kernel
theorem dRef_secret_67 : decode cRef_secret 67 = .ok (.dup, 1) := by decide +kernel
theorem dRef_secret_68 : decode cRef_secret 68 = .ok (.getfield 93, 3) := by decide +kernel
theorem dRef_secret_71 : decode cRef_secret 71 = .ok (.iconst 1, 1) := by decide +kernel
theorem dRef_secret_72 : decode cRef_secret 72 = .ok (.iadd, 1) := by decide +kernel
theorem dRef_secret_73 : decode cRef_secret 73 = .ok (.putfield 93, 3) := by decide +kernel
theorem dRef_secret_76 : decode cRef_secret 76 = .ok (.aload_n 0, 1) := by decide +kernel
theorem dRef_secret_77 : decode cRef_secret 77 = .ok (.getfield 93, 3) := by decide +kernel
theorem dRef_secret_80 : decode cRef_secret 80 = .ok (.iconst 1, 1) := by decide +kernel
theorem dRef_secret_81 : decode cRef_secret 81 = .ok (.isub, 1) := by decide +kernel
theorem dRef_secret_82 : decode cRef_secret 82 = .ok (.ireturn, 1) := by decide +kernel
theorem dRef_type_0 : decode cRef_type 0 = .ok (.aload_n 0, 1) := by decide +kernel
theorem dRef_type_1 : decode cRef_type 1 = .ok (.iconst 0, 1) := by decide +kernel
theorem dRef_type_2 : decode cRef_type 2 = .ok (.putfield 90, 3) := by decide +kernel
theorem dRef_type_5 : decode cRef_type 5 = .ok (.iload_n 1, 1) := by decide +kernel
theorem dRef_type_6 : decode cRef_type 6 = .ok (.bipush 32, 2) := by decide +kernel
theorem dRef_type_8 : decode cRef_type 8 = .ok (.if_icmp .lt 19, 3) := by decide +kernel
theorem dRef_type_11 : decode cRef_type 11 = .ok (.iload_n 1, 1) := by decide +kernel
theorem dRef_type_12 : decode cRef_type 12 = .ok (.bipush 126, 2) := by decide +kernel
theorem dRef_type_14 : decode cRef_type 14 = .ok (.if_icmp .gt 13, 3) := by decide +kernel
theorem dRef_type_17 : decode cRef_type 17 = .ok (.aload_n 0, 1) := by decide +kernel
theorem dRef_type_18 : decode cRef_type 18 = .ok (.getfield 99, 3) := by decide +kernel
theorem dRef_type_21 : decode cRef_type 21 = .ok (.sipush 300, 3) := by decide +kernel
theorem dRef_type_24 : decode cRef_type 24 = .ok (.if_icmp .ne 5, 3) := by decide +kernel
theorem dRef_type_27 : decode cRef_type 27 = .ok (.iconst 0, 1) := by decide +kernel
theorem dRef_type_28 : decode cRef_type 28 = .ok (.ireturn, 1) := by decide +kernel
theorem dRef_type_29 : decode cRef_type 29 = .ok (.aload_n 0, 1) := by decide +kernel
theorem dRef_type_30 : decode cRef_type 30 = .ok (.getfield 41, 3) := by decide +kernel
theorem dRef_type_33 : decode cRef_type 33 = .ok (.aload_n 0, 1) := by decide +kernel
theorem dRef_type_34 : decode cRef_type 34 = .ok (.getfield 99, 3) := by decide +kernel
theorem dRef_type_37 : decode cRef_type 37 = .ok (.iload_n 1, 1) := by decide +kernel
theorem dRef_type_38 : decode cRef_type 38 = .ok (.iastore, 1) := by decide +kernel
theorem dRef_type_39 : decode cRef_type 39 = .ok (.aload_n 0, 1) := by decide +kernel
theorem dRef_type_40 : decode cRef_type 40 = .ok (.dup, 1) := by decide +kernel
theorem dRef_type_41 : decode cRef_type 41 = .ok (.getfield 99, 3) := by decide +kernel
theorem dRef_type_44 : decode cRef_type 44 = .ok (.iconst 1, 1) := by decide +kernel
theorem dRef_type_45 : decode cRef_type 45 = .ok (.iadd, 1) := by decide +kernel
theorem dRef_type_46 : decode cRef_type 46 = .ok (.putfield 99, 3) := by decide +kernel
theorem dRef_type_49 : decode cRef_type 49 = .ok (.iconst 1, 1) := by decide +kernel
theorem dRef_type_50 : decode cRef_type 50 = .ok (.ireturn, 1) := by decide +kernel
theorem dRef_isTaped_0 : decode cRef_isTaped 0 = .ok (.iload_n 1, 1) := by decide +kernel
theorem dRef_isTaped_1 : decode cRef_isTaped 1 = .ok (.iconst (-1), 1) := by decide +kernel
theorem dRef_isTaped_2 : decode cRef_isTaped 2 = .ok (.if_icmp .eq 17, 3) := by decide +kernel
theorem dRef_isTaped_5 : decode cRef_isTaped 5 = .ok (.aload_n 0, 1) := by decide +kernel
theorem dRef_isTaped_6 : decode cRef_isTaped 6 = .ok (.getfield 13, 3) := by decide +kernel
theorem dRef_isTaped_9 : decode cRef_isTaped 9 = .ok (.iload_n 1, 1) := by decide +kernel
theorem dRef_isTaped_10 : decode cRef_isTaped 10 = .ok (.iaload, 1) := by decide +kernel
theorem dRef_isTaped_11 : decode cRef_isTaped 11 = .ok (.iload_n 2, 1) := by decide +kernel
theorem dRef_isTaped_12 : decode cRef_isTaped 12 = .ok (.if_icmp .ne 7, 3) := by decide +kernel
theorem dRef_isTaped_15 : decode cRef_isTaped 15 = .ok (.iconst 1, 1) := by decide +kernel
theorem dRef_isTaped_16 : decode cRef_isTaped 16 = .ok (.goto 4, 3) := by decide +kernel
theorem dRef_isTaped_19 : decode cRef_isTaped 19 = .ok (.iconst 0, 1) := by decide +kernel
theorem dRef_isTaped_20 : decode cRef_isTaped 20 = .ok (.istore_n 3, 1) := by decide +kernel
theorem dRef_isTaped_21 : decode cRef_isTaped 21 = .ok (.iconst 0, 1) := by decide +kernel
theorem dRef_isTaped_22 : decode cRef_isTaped 22 = .ok (.istore 4, 2) := by decide +kernel
theorem dRef_isTaped_24 : decode cRef_isTaped 24 = .ok (.iload 4, 2) := by decide +kernel
theorem dRef_isTaped_26 : decode cRef_isTaped 26 = .ok (.iload_n 2, 1) := by decide +kernel
theorem dRef_isTaped_27 : decode cRef_isTaped 27 = .ok (.if_icmp .ge 41, 3) := by decide +kernel
theorem dRef_isTaped_30 : decode cRef_isTaped 30 = .ok (.iload_n 3, 1) := by decide +kernel
theorem dRef_isTaped_31 : decode cRef_isTaped 31 = .ok (.ifCond .eq 37, 3) := by decide +kernel
theorem dRef_isTaped_34 : decode cRef_isTaped 34 = .ok (.aload_n 0, 1) := by decide +kernel
theorem dRef_isTaped_35 : decode cRef_isTaped 35 = .ok (.getfield 16, 3) := by decide +kernel
theorem dRef_isTaped_38 : decode cRef_isTaped 38 = .ok (.bipush 12, 2) := by decide +kernel
theorem dRef_isTaped_40 : decode cRef_isTaped 40 = .ok (.iload_n 1, 1) := by decide +kernel
theorem dRef_isTaped_41 : decode cRef_isTaped 41 = .ok (.imul, 1) := by decide +kernel
theorem dRef_isTaped_42 : decode cRef_isTaped 42 = .ok (.iload 4, 2) := by decide +kernel
theorem dRef_isTaped_44 : decode cRef_isTaped 44 = .ok (.iadd, 1) := by decide +kernel
theorem dRef_isTaped_45 : decode cRef_isTaped 45 = .ok (.iaload, 1) := by decide +kernel
theorem dRef_isTaped_46 : decode cRef_isTaped 46 = .ok (.aload_n 0, 1) := by decide +kernel
theorem dRef_isTaped_47 : decode cRef_isTaped 47 = .ok (.getfield 41, 3) := by decide +kernel
theorem dRef_isTaped_50 : decode cRef_isTaped 50 = .ok (.iload 4, 2) := by decide +kernel
theorem dRef_isTaped_52 : decode cRef_isTaped 52 = .ok (.iaload, 1) := by decide +kernel
theorem dRef_isTaped_53 : decode cRef_isTaped 53 = .ok (.if_icmp .ne 7, 3) := by decide +kernel
theorem dRef_isTaped_56 : decode cRef_isTaped 56 = .ok (.iconst 1, 1) := by decide +kernel
theorem dRef_isTaped_57 : decode cRef_isTaped 57 = .ok (.goto 4, 3) := by decide +kernel
theorem dRef_isTaped_60 : decode cRef_isTaped 60 = .ok (.iconst 0, 1) := by decide +kernel
theorem dRef_isTaped_61 : decode cRef_isTaped 61 = .ok (.istore_n 3, 1) := by decide +kernel
theorem dRef_isTaped_62 : decode cRef_isTaped 62 = .ok (.iinc 4 1, 3) := by decide +kernel
theorem dRef_isTaped_65 : decode cRef_isTaped 65 = .ok (.goto (-41), 3) := by decide +kernel
theorem dRef_isTaped_68 : decode cRef_isTaped 68 = .ok (.iload_n 3, 1) := by decide +kernel
theorem dRef_isTaped_69 : decode cRef_isTaped 69 = .ok (.ireturn, 1) := by decide +kernel
def fRef_init (n : Nat) (a0 : Nat) (z : gS) : Option (gS) :=
    g_bp (g_nwI z .int 24 24) fun a_1 z_2 =>
    (g_pF z_2 a0 9 7 (.ref a_1)).bind fun z_3 =>
    g_bp (g_nwI z_3 .int 24 24) fun a_4 z_5 =>
    (g_pF z_5 a0 9 8 (.ref a_4)).bind fun z_6 =>
    g_bp (g_nwI z_6 .int 288 288) fun a_7 z_8 =>
    (g_pF z_8 a0 9 9 (.ref a_7)).bind fun z_9 =>
    g_bp (g_nwI z_9 .int 10 10) fun a_10 z_11 =>
    (g_pF z_11 a0 9 10 (.ref a_10)).bind fun z_12 =>
    g_bp (g_nwI z_12 .int 10 10) fun a_13 z_14 =>
    (g_pF z_14 a0 9 11 (.ref a_13)).bind fun z_15 =>
    g_bp (g_nwI z_15 .int 10 10) fun a_16 z_17 =>
    (g_pF z_17 a0 9 12 (.ref a_16)).bind fun z_18 =>
    g_bp (g_nwI z_18 .int 10 10) fun a_19 z_20 =>
    (g_pF z_20 a0 9 13 (.ref a_19)).bind fun z_21 =>
    g_bp (g_nwI z_21 .int 10 10) fun a_22 z_23 =>
    (g_pF z_23 a0 9 14 (.ref a_22)).bind fun z_24 =>
    g_bp (g_nwI z_24 .int 10 10) fun a_25 z_26 =>
    (g_pF z_26 a0 9 15 (.ref a_25)).bind fun z_27 =>
    g_bp (g_nwI z_27 .boolean 10 10) fun a_28 z_29 =>
    (g_pF z_29 a0 9 16 (.ref a_28)).bind fun z_30 =>
    g_bp (g_nwI z_30 .int 300 300) fun a_31 z_32 =>
    (g_pF z_32 a0 9 17 (.ref a_31)).bind fun z_33 =>
    g_bp (g_nwI z_33 .int 120 120) fun a_34 z_35 =>
    (g_pF z_35 a0 9 19 (.ref a_34)).bind fun z_36 =>
    g_bp (g_nwI z_36 .int 3600 3600) fun a_37 z_38 =>
    (g_pF z_38 a0 9 20 (.ref a_37)).bind fun z_39 =>
    g_bp (g_nwI z_39 .int 12 12) fun a_40 z_41 =>
    (g_pF z_41 a0 9 21 (.ref a_40)).bind fun z_42 =>
    g_bp (g_nwI z_42 .int 12 12) fun a_43 z_44 =>
    (g_pF z_44 a0 9 22 (.ref a_43)).bind fun z_45 =>
    g_bp (g_nwI z_45 .int 3600 3600) fun a_46 z_47 =>
    (g_pF z_47 a0 9 23 (.ref a_46)).bind fun z_48 =>
    g_bp (g_nwI z_48 .int 12 12) fun a_49 z_50 =>
    (g_pF z_50 a0 9 24 (.ref a_49)).bind fun z_51 =>
    g_bp (g_nwI z_51 .int 12 12) fun a_52 z_53 =>
    (g_pF z_53 a0 9 25 (.ref a_52)).bind fun z_54 =>
    g_bp (g_nwI z_54 .boolean 12 12) fun a_55 z_56 =>
    (g_pF z_56 a0 9 26 (.ref a_55)).bind fun z_57 =>
    g_bp (g_nwI z_57 .int 200 200) fun a_58 z_59 =>
    (g_pF z_59 a0 9 27 (.ref a_58)).bind fun z_60 =>
    g_bp (g_nwI z_60 .int 200 200) fun a_61 z_62 =>
    (g_pF z_62 a0 9 28 (.ref a_61)).bind fun z_63 =>
    g_bp (g_nwI z_63 .int 200 200) fun a_64 z_65 =>
    (g_pF z_65 a0 9 29 (.ref a_64)).bind fun z_66 =>
    g_bp (g_nwI z_66 .int 20 20) fun a_67 z_68 =>
    (g_pF z_68 a0 9 30 (.ref a_67)).bind fun z_69 =>
    g_bp (g_nwI z_69 .int 20 20) fun a_70 z_71 =>
    (g_pF z_71 a0 9 31 (.ref a_70)).bind fun z_72 =>
    g_bp (g_nwI z_72 .int 20 20) fun a_73 z_74 =>
    (g_pF z_74 a0 9 32 (.ref a_73)).bind fun z_75 =>
    (g_pF z_75 a0 9 33 (.int (-1))).bind fun z_76 =>
    some z_76
set_option maxHeartbeats 4000000 in
set_option maxRecDepth 100000 in
theorem mRef_init (l : Launch) (D : va_G) (A : Nat → Prop) (n : Nat) (z z' : gS) (a0 : Nat) (hf : fRef_init n a0 z = some z') : Met l yRef_init wsRef_init ({ frames := 1, cells := 25, slots := 8746, locals := 12 }) (g_P D vwCl gNN gOO A z [.ref a0]) (g_Qv D vwCl A z') 25 8746 A := by
  refine Met.ofW (cc := cRef_init) (maxL := 1) (ret := none) (by decide) rfl ?_
  intro p e s m args below meth c s₁ B hml hv
  obtain ⟨rfl, hW, hK, hA0⟩ := hv
  have hin : meth.name = "<init>" := (name_of_methodNamed B.named B.method).1
  have C : g_C p s m meth c _ cRef_init 1 none "SecretRowsModel" gW D vwCl gNN gOO A := ⟨B.exec, B.bytes, B.returns, hml, findClass_of_methodNamed B.named, fun w hw => atoms_spec (ws := wsRef_init) B.pre w (List.mem_cons_of_mem _ hw), B.notSynchronized, hK, fun q hq => hA0 q (by rw [← hW.1]; exact hq)⟩
  have hS : va_S A s.heap s.heap [] := va_S.rf
  have hl := lv_entry ([.ref a0]) (n := 1) (Nat.le_of_ble_eq_true rfl)
  rw [lg_entry_eq]
  generalize (lg_sl ([.ref a0]) ++ List.replicate (1 - (lg_sl ([.ref a0])).length) Slot.unset).toArray = ls at hl ⊢
  have hl : lv_has ls 1 [(0, .ref a0)] := hl
  obtain ⟨hx, hb, hr, hml, hown, hts, hlocks, hK, hA⟩ := id C
  unfold fRef_init at hf
  refine lv_aload_n hx hb dRef_init_0 rfl (lv_at hl 0 rfl) ?_
  refine W.objInit hx hb hown (hts _ kw_519) (hts _ kw_18) (hts _ kw_19) rfl (by rw [hml]; exact hl.1) rfl dRef_init_1 (Nat.le_of_ble_eq_true rfl) (Nat.le_of_ble_eq_true rfl) ?_
  refine W.eq (g2 := F0 m 4 _ []) rfl ?_
  refine lv_aload_n hx hb dRef_init_4 rfl (lv_at hl 0 rfl) ?_
  refine lv_bipush (v := 24) hx hb dRef_init_5 (by decide) ?_
  replace hf := g_bps hf
  obtain ⟨a_1, z_2, hz_2, hf⟩ := hf
  refine g_newI (atype := .int) hx hb (hts _ kw_39) rfl rfl hW hS hA (B := 24) (Nat.le_of_ble_eq_true rfl) (Nat.le_of_ble_eq_true rfl) (Nat.le_of_ble_eq_true rfl) hz_2 dRef_init_7 (fun H hW hS => ?_)
  refine W.cs (cells' := 1) (slots' := 24) rfl rfl ?_
  replace hf := g_bd hf
  obtain ⟨z_3, hz_3, hf⟩ := hf
  refine g_putF hx hb hts in_Ref ty_Ref tyok_Ref nm_Ref hown hK hW hS (ci := 9) (C := "SecretRowsModel") (T := T_Ref) (N := 36) rfl (k := 7) (by decide) (hts _ kw_527) (fun _ h9 => h9) rfl hin rfl (ty := (.array .int)) (by decide +kernel) rfl rfl hz_3 dRef_init_9 (fun H locs hW hS => ?_)
  refine lv_aload_n hx hb dRef_init_12 rfl (lv_at hl 0 rfl) ?_
  refine lv_bipush (v := 24) hx hb dRef_init_13 (by decide) ?_
  replace hf := g_bps hf
  obtain ⟨a_4, z_5, hz_5, hf⟩ := hf
  refine g_newI (atype := .int) hx hb (hts _ kw_39) rfl rfl hW hS hA (B := 24) (Nat.le_of_ble_eq_true rfl) (Nat.le_of_ble_eq_true rfl) (Nat.le_of_ble_eq_true rfl) hz_5 dRef_init_15 (fun H hW hS => ?_)
  refine W.cs (cells' := 2) (slots' := 48) rfl rfl ?_
  replace hf := g_bd hf
  obtain ⟨z_6, hz_6, hf⟩ := hf
  refine g_putF hx hb hts in_Ref ty_Ref tyok_Ref nm_Ref hown hK hW hS (ci := 9) (C := "SecretRowsModel") (T := T_Ref) (N := 36) rfl (k := 8) (by decide) (hts _ kw_528) (fun _ h9 => h9) rfl hin rfl (ty := (.array .int)) (by decide +kernel) rfl rfl hz_6 dRef_init_17 (fun H locs hW hS => ?_)
  refine lv_aload_n hx hb dRef_init_20 rfl (lv_at hl 0 rfl) ?_
  refine lv_sipush (v := 288) hx hb dRef_init_21 (by decide) ?_
  replace hf := g_bps hf
  obtain ⟨a_7, z_8, hz_8, hf⟩ := hf
  refine g_newI (atype := .int) hx hb (hts _ kw_39) rfl rfl hW hS hA (B := 288) (Nat.le_of_ble_eq_true rfl) (Nat.le_of_ble_eq_true rfl) (Nat.le_of_ble_eq_true rfl) hz_8 dRef_init_24 (fun H hW hS => ?_)
  refine W.cs (cells' := 3) (slots' := 336) rfl rfl ?_
  replace hf := g_bd hf
  obtain ⟨z_9, hz_9, hf⟩ := hf
  refine g_putF hx hb hts in_Ref ty_Ref tyok_Ref nm_Ref hown hK hW hS (ci := 9) (C := "SecretRowsModel") (T := T_Ref) (N := 36) rfl (k := 9) (by decide) (hts _ kw_529) (fun _ h9 => h9) rfl hin rfl (ty := (.array .int)) (by decide +kernel) rfl rfl hz_9 dRef_init_26 (fun H locs hW hS => ?_)
  refine lv_aload_n hx hb dRef_init_29 rfl (lv_at hl 0 rfl) ?_
  refine lv_bipush (v := 10) hx hb dRef_init_30 (by decide) ?_
  replace hf := g_bps hf
  obtain ⟨a_10, z_11, hz_11, hf⟩ := hf
  refine g_newI (atype := .int) hx hb (hts _ kw_39) rfl rfl hW hS hA (B := 10) (Nat.le_of_ble_eq_true rfl) (Nat.le_of_ble_eq_true rfl) (Nat.le_of_ble_eq_true rfl) hz_11 dRef_init_32 (fun H hW hS => ?_)
  refine W.cs (cells' := 4) (slots' := 346) rfl rfl ?_
  replace hf := g_bd hf
  obtain ⟨z_12, hz_12, hf⟩ := hf
  refine g_putF hx hb hts in_Ref ty_Ref tyok_Ref nm_Ref hown hK hW hS (ci := 9) (C := "SecretRowsModel") (T := T_Ref) (N := 36) rfl (k := 10) (by decide) (hts _ kw_530) (fun _ h9 => h9) rfl hin rfl (ty := (.array .int)) (by decide +kernel) rfl rfl hz_12 dRef_init_34 (fun H locs hW hS => ?_)
  refine lv_aload_n hx hb dRef_init_37 rfl (lv_at hl 0 rfl) ?_
  refine lv_bipush (v := 10) hx hb dRef_init_38 (by decide) ?_
  replace hf := g_bps hf
  obtain ⟨a_13, z_14, hz_14, hf⟩ := hf
  refine g_newI (atype := .int) hx hb (hts _ kw_39) rfl rfl hW hS hA (B := 10) (Nat.le_of_ble_eq_true rfl) (Nat.le_of_ble_eq_true rfl) (Nat.le_of_ble_eq_true rfl) hz_14 dRef_init_40 (fun H hW hS => ?_)
  refine W.cs (cells' := 5) (slots' := 356) rfl rfl ?_
  replace hf := g_bd hf
  obtain ⟨z_15, hz_15, hf⟩ := hf
  refine g_putF hx hb hts in_Ref ty_Ref tyok_Ref nm_Ref hown hK hW hS (ci := 9) (C := "SecretRowsModel") (T := T_Ref) (N := 36) rfl (k := 11) (by decide) (hts _ kw_531) (fun _ h9 => h9) rfl hin rfl (ty := (.array .int)) (by decide +kernel) rfl rfl hz_15 dRef_init_42 (fun H locs hW hS => ?_)
  refine lv_aload_n hx hb dRef_init_45 rfl (lv_at hl 0 rfl) ?_
  refine lv_bipush (v := 10) hx hb dRef_init_46 (by decide) ?_
  replace hf := g_bps hf
  obtain ⟨a_16, z_17, hz_17, hf⟩ := hf
  refine g_newI (atype := .int) hx hb (hts _ kw_39) rfl rfl hW hS hA (B := 10) (Nat.le_of_ble_eq_true rfl) (Nat.le_of_ble_eq_true rfl) (Nat.le_of_ble_eq_true rfl) hz_17 dRef_init_48 (fun H hW hS => ?_)
  refine W.cs (cells' := 6) (slots' := 366) rfl rfl ?_
  replace hf := g_bd hf
  obtain ⟨z_18, hz_18, hf⟩ := hf
  refine g_putF hx hb hts in_Ref ty_Ref tyok_Ref nm_Ref hown hK hW hS (ci := 9) (C := "SecretRowsModel") (T := T_Ref) (N := 36) rfl (k := 12) (by decide) (hts _ kw_532) (fun _ h9 => h9) rfl hin rfl (ty := (.array .int)) (by decide +kernel) rfl rfl hz_18 dRef_init_50 (fun H locs hW hS => ?_)
  refine lv_aload_n hx hb dRef_init_53 rfl (lv_at hl 0 rfl) ?_
  refine lv_bipush (v := 10) hx hb dRef_init_54 (by decide) ?_
  replace hf := g_bps hf
  obtain ⟨a_19, z_20, hz_20, hf⟩ := hf
  refine g_newI (atype := .int) hx hb (hts _ kw_39) rfl rfl hW hS hA (B := 10) (Nat.le_of_ble_eq_true rfl) (Nat.le_of_ble_eq_true rfl) (Nat.le_of_ble_eq_true rfl) hz_20 dRef_init_56 (fun H hW hS => ?_)
  refine W.cs (cells' := 7) (slots' := 376) rfl rfl ?_
  replace hf := g_bd hf
  obtain ⟨z_21, hz_21, hf⟩ := hf
  refine g_putF hx hb hts in_Ref ty_Ref tyok_Ref nm_Ref hown hK hW hS (ci := 9) (C := "SecretRowsModel") (T := T_Ref) (N := 36) rfl (k := 13) (by decide) (hts _ kw_533) (fun _ h9 => h9) rfl hin rfl (ty := (.array .int)) (by decide +kernel) rfl rfl hz_21 dRef_init_58 (fun H locs hW hS => ?_)
  refine lv_aload_n hx hb dRef_init_61 rfl (lv_at hl 0 rfl) ?_
  refine lv_bipush (v := 10) hx hb dRef_init_62 (by decide) ?_
  replace hf := g_bps hf
  obtain ⟨a_22, z_23, hz_23, hf⟩ := hf
  refine g_newI (atype := .int) hx hb (hts _ kw_39) rfl rfl hW hS hA (B := 10) (Nat.le_of_ble_eq_true rfl) (Nat.le_of_ble_eq_true rfl) (Nat.le_of_ble_eq_true rfl) hz_23 dRef_init_64 (fun H hW hS => ?_)
  refine W.cs (cells' := 8) (slots' := 386) rfl rfl ?_
  replace hf := g_bd hf
  obtain ⟨z_24, hz_24, hf⟩ := hf
  refine g_putF hx hb hts in_Ref ty_Ref tyok_Ref nm_Ref hown hK hW hS (ci := 9) (C := "SecretRowsModel") (T := T_Ref) (N := 36) rfl (k := 14) (by decide) (hts _ kw_534) (fun _ h9 => h9) rfl hin rfl (ty := (.array .int)) (by decide +kernel) rfl rfl hz_24 dRef_init_66 (fun H locs hW hS => ?_)
  refine lv_aload_n hx hb dRef_init_69 rfl (lv_at hl 0 rfl) ?_
  refine lv_bipush (v := 10) hx hb dRef_init_70 (by decide) ?_
  replace hf := g_bps hf
  obtain ⟨a_25, z_26, hz_26, hf⟩ := hf
  refine g_newI (atype := .int) hx hb (hts _ kw_39) rfl rfl hW hS hA (B := 10) (Nat.le_of_ble_eq_true rfl) (Nat.le_of_ble_eq_true rfl) (Nat.le_of_ble_eq_true rfl) hz_26 dRef_init_72 (fun H hW hS => ?_)
  refine W.cs (cells' := 9) (slots' := 396) rfl rfl ?_
  replace hf := g_bd hf
  obtain ⟨z_27, hz_27, hf⟩ := hf
  refine g_putF hx hb hts in_Ref ty_Ref tyok_Ref nm_Ref hown hK hW hS (ci := 9) (C := "SecretRowsModel") (T := T_Ref) (N := 36) rfl (k := 15) (by decide) (hts _ kw_535) (fun _ h9 => h9) rfl hin rfl (ty := (.array .int)) (by decide +kernel) rfl rfl hz_27 dRef_init_74 (fun H locs hW hS => ?_)
  refine lv_aload_n hx hb dRef_init_77 rfl (lv_at hl 0 rfl) ?_
  refine lv_bipush (v := 10) hx hb dRef_init_78 (by decide) ?_
  replace hf := g_bps hf
  obtain ⟨a_28, z_29, hz_29, hf⟩ := hf
  refine g_newI (atype := .boolean) hx hb (hts _ kw_629) rfl rfl hW hS hA (B := 10) (Nat.le_of_ble_eq_true rfl) (Nat.le_of_ble_eq_true rfl) (Nat.le_of_ble_eq_true rfl) hz_29 dRef_init_80 (fun H hW hS => ?_)
  refine W.cs (cells' := 10) (slots' := 406) rfl rfl ?_
  replace hf := g_bd hf
  obtain ⟨z_30, hz_30, hf⟩ := hf
  refine g_putF hx hb hts in_Ref ty_Ref tyok_Ref nm_Ref hown hK hW hS (ci := 9) (C := "SecretRowsModel") (T := T_Ref) (N := 36) rfl (k := 16) (by decide) (hts _ kw_536) (fun _ h9 => h9) rfl hin rfl (ty := (.array .boolean)) (by decide +kernel) rfl rfl hz_30 dRef_init_82 (fun H locs hW hS => ?_)
  refine lv_aload_n hx hb dRef_init_85 rfl (lv_at hl 0 rfl) ?_
  refine lv_sipush (v := 300) hx hb dRef_init_86 (by decide) ?_
  replace hf := g_bps hf
  obtain ⟨a_31, z_32, hz_32, hf⟩ := hf
  refine g_newI (atype := .int) hx hb (hts _ kw_39) rfl rfl hW hS hA (B := 300) (Nat.le_of_ble_eq_true rfl) (Nat.le_of_ble_eq_true rfl) (Nat.le_of_ble_eq_true rfl) hz_32 dRef_init_89 (fun H hW hS => ?_)
  refine W.cs (cells' := 11) (slots' := 706) rfl rfl ?_
  replace hf := g_bd hf
  obtain ⟨z_33, hz_33, hf⟩ := hf
  refine g_putF hx hb hts in_Ref ty_Ref tyok_Ref nm_Ref hown hK hW hS (ci := 9) (C := "SecretRowsModel") (T := T_Ref) (N := 36) rfl (k := 17) (by decide) (hts _ kw_537) (fun _ h9 => h9) rfl hin rfl (ty := (.array .int)) (by decide +kernel) rfl rfl hz_33 dRef_init_91 (fun H locs hW hS => ?_)
  refine lv_aload_n hx hb dRef_init_94 rfl (lv_at hl 0 rfl) ?_
  refine lv_bipush (v := 120) hx hb dRef_init_95 (by decide) ?_
  replace hf := g_bps hf
  obtain ⟨a_34, z_35, hz_35, hf⟩ := hf
  refine g_newI (atype := .int) hx hb (hts _ kw_39) rfl rfl hW hS hA (B := 120) (Nat.le_of_ble_eq_true rfl) (Nat.le_of_ble_eq_true rfl) (Nat.le_of_ble_eq_true rfl) hz_35 dRef_init_97 (fun H hW hS => ?_)
  refine W.cs (cells' := 12) (slots' := 826) rfl rfl ?_
  replace hf := g_bd hf
  obtain ⟨z_36, hz_36, hf⟩ := hf
  refine g_putF hx hb hts in_Ref ty_Ref tyok_Ref nm_Ref hown hK hW hS (ci := 9) (C := "SecretRowsModel") (T := T_Ref) (N := 36) rfl (k := 19) (by decide) (hts _ kw_539) (fun _ h9 => h9) rfl hin rfl (ty := (.array .int)) (by decide +kernel) rfl rfl hz_36 dRef_init_99 (fun H locs hW hS => ?_)
  refine lv_aload_n hx hb dRef_init_102 rfl (lv_at hl 0 rfl) ?_
  refine lv_sipush (v := 3600) hx hb dRef_init_103 (by decide) ?_
  replace hf := g_bps hf
  obtain ⟨a_37, z_38, hz_38, hf⟩ := hf
  refine g_newI (atype := .int) hx hb (hts _ kw_39) rfl rfl hW hS hA (B := 3600) (Nat.le_of_ble_eq_true rfl) (Nat.le_of_ble_eq_true rfl) (Nat.le_of_ble_eq_true rfl) hz_38 dRef_init_106 (fun H hW hS => ?_)
  refine W.cs (cells' := 13) (slots' := 4426) rfl rfl ?_
  replace hf := g_bd hf
  obtain ⟨z_39, hz_39, hf⟩ := hf
  refine g_putF hx hb hts in_Ref ty_Ref tyok_Ref nm_Ref hown hK hW hS (ci := 9) (C := "SecretRowsModel") (T := T_Ref) (N := 36) rfl (k := 20) (by decide) (hts _ kw_540) (fun _ h9 => h9) rfl hin rfl (ty := (.array .int)) (by decide +kernel) rfl rfl hz_39 dRef_init_108 (fun H locs hW hS => ?_)
  refine lv_aload_n hx hb dRef_init_111 rfl (lv_at hl 0 rfl) ?_
  refine lv_bipush (v := 12) hx hb dRef_init_112 (by decide) ?_
  replace hf := g_bps hf
  obtain ⟨a_40, z_41, hz_41, hf⟩ := hf
  refine g_newI (atype := .int) hx hb (hts _ kw_39) rfl rfl hW hS hA (B := 12) (Nat.le_of_ble_eq_true rfl) (Nat.le_of_ble_eq_true rfl) (Nat.le_of_ble_eq_true rfl) hz_41 dRef_init_114 (fun H hW hS => ?_)
  refine W.cs (cells' := 14) (slots' := 4438) rfl rfl ?_
  replace hf := g_bd hf
  obtain ⟨z_42, hz_42, hf⟩ := hf
  refine g_putF hx hb hts in_Ref ty_Ref tyok_Ref nm_Ref hown hK hW hS (ci := 9) (C := "SecretRowsModel") (T := T_Ref) (N := 36) rfl (k := 21) (by decide) (hts _ kw_541) (fun _ h9 => h9) rfl hin rfl (ty := (.array .int)) (by decide +kernel) rfl rfl hz_42 dRef_init_116 (fun H locs hW hS => ?_)
  refine lv_aload_n hx hb dRef_init_119 rfl (lv_at hl 0 rfl) ?_
  refine lv_bipush (v := 12) hx hb dRef_init_120 (by decide) ?_
  replace hf := g_bps hf
  obtain ⟨a_43, z_44, hz_44, hf⟩ := hf
  refine g_newI (atype := .int) hx hb (hts _ kw_39) rfl rfl hW hS hA (B := 12) (Nat.le_of_ble_eq_true rfl) (Nat.le_of_ble_eq_true rfl) (Nat.le_of_ble_eq_true rfl) hz_44 dRef_init_122 (fun H hW hS => ?_)
  refine W.cs (cells' := 15) (slots' := 4450) rfl rfl ?_
  replace hf := g_bd hf
  obtain ⟨z_45, hz_45, hf⟩ := hf
  refine g_putF hx hb hts in_Ref ty_Ref tyok_Ref nm_Ref hown hK hW hS (ci := 9) (C := "SecretRowsModel") (T := T_Ref) (N := 36) rfl (k := 22) (by decide) (hts _ kw_542) (fun _ h9 => h9) rfl hin rfl (ty := (.array .int)) (by decide +kernel) rfl rfl hz_45 dRef_init_124 (fun H locs hW hS => ?_)
  refine lv_aload_n hx hb dRef_init_127 rfl (lv_at hl 0 rfl) ?_
  refine lv_sipush (v := 3600) hx hb dRef_init_128 (by decide) ?_
  replace hf := g_bps hf
  obtain ⟨a_46, z_47, hz_47, hf⟩ := hf
  refine g_newI (atype := .int) hx hb (hts _ kw_39) rfl rfl hW hS hA (B := 3600) (Nat.le_of_ble_eq_true rfl) (Nat.le_of_ble_eq_true rfl) (Nat.le_of_ble_eq_true rfl) hz_47 dRef_init_131 (fun H hW hS => ?_)
  refine W.cs (cells' := 16) (slots' := 8050) rfl rfl ?_
  replace hf := g_bd hf
  obtain ⟨z_48, hz_48, hf⟩ := hf
  refine g_putF hx hb hts in_Ref ty_Ref tyok_Ref nm_Ref hown hK hW hS (ci := 9) (C := "SecretRowsModel") (T := T_Ref) (N := 36) rfl (k := 23) (by decide) (hts _ kw_543) (fun _ h9 => h9) rfl hin rfl (ty := (.array .int)) (by decide +kernel) rfl rfl hz_48 dRef_init_133 (fun H locs hW hS => ?_)
  refine lv_aload_n hx hb dRef_init_136 rfl (lv_at hl 0 rfl) ?_
  refine lv_bipush (v := 12) hx hb dRef_init_137 (by decide) ?_
  replace hf := g_bps hf
  obtain ⟨a_49, z_50, hz_50, hf⟩ := hf
  refine g_newI (atype := .int) hx hb (hts _ kw_39) rfl rfl hW hS hA (B := 12) (Nat.le_of_ble_eq_true rfl) (Nat.le_of_ble_eq_true rfl) (Nat.le_of_ble_eq_true rfl) hz_50 dRef_init_139 (fun H hW hS => ?_)
  refine W.cs (cells' := 17) (slots' := 8062) rfl rfl ?_
  replace hf := g_bd hf
  obtain ⟨z_51, hz_51, hf⟩ := hf
  refine g_putF hx hb hts in_Ref ty_Ref tyok_Ref nm_Ref hown hK hW hS (ci := 9) (C := "SecretRowsModel") (T := T_Ref) (N := 36) rfl (k := 24) (by decide) (hts _ kw_544) (fun _ h9 => h9) rfl hin rfl (ty := (.array .int)) (by decide +kernel) rfl rfl hz_51 dRef_init_141 (fun H locs hW hS => ?_)
  refine lv_aload_n hx hb dRef_init_144 rfl (lv_at hl 0 rfl) ?_
  refine lv_bipush (v := 12) hx hb dRef_init_145 (by decide) ?_
  replace hf := g_bps hf
  obtain ⟨a_52, z_53, hz_53, hf⟩ := hf
  refine g_newI (atype := .int) hx hb (hts _ kw_39) rfl rfl hW hS hA (B := 12) (Nat.le_of_ble_eq_true rfl) (Nat.le_of_ble_eq_true rfl) (Nat.le_of_ble_eq_true rfl) hz_53 dRef_init_147 (fun H hW hS => ?_)
  refine W.cs (cells' := 18) (slots' := 8074) rfl rfl ?_
  replace hf := g_bd hf
  obtain ⟨z_54, hz_54, hf⟩ := hf
  refine g_putF hx hb hts in_Ref ty_Ref tyok_Ref nm_Ref hown hK hW hS (ci := 9) (C := "SecretRowsModel") (T := T_Ref) (N := 36) rfl (k := 25) (by decide) (hts _ kw_545) (fun _ h9 => h9) rfl hin rfl (ty := (.array .int)) (by decide +kernel) rfl rfl hz_54 dRef_init_149 (fun H locs hW hS => ?_)
  refine lv_aload_n hx hb dRef_init_152 rfl (lv_at hl 0 rfl) ?_
  refine lv_bipush (v := 12) hx hb dRef_init_153 (by decide) ?_
  replace hf := g_bps hf
  obtain ⟨a_55, z_56, hz_56, hf⟩ := hf
  refine g_newI (atype := .boolean) hx hb (hts _ kw_629) rfl rfl hW hS hA (B := 12) (Nat.le_of_ble_eq_true rfl) (Nat.le_of_ble_eq_true rfl) (Nat.le_of_ble_eq_true rfl) hz_56 dRef_init_155 (fun H hW hS => ?_)
  refine W.cs (cells' := 19) (slots' := 8086) rfl rfl ?_
  replace hf := g_bd hf
  obtain ⟨z_57, hz_57, hf⟩ := hf
  refine g_putF hx hb hts in_Ref ty_Ref tyok_Ref nm_Ref hown hK hW hS (ci := 9) (C := "SecretRowsModel") (T := T_Ref) (N := 36) rfl (k := 26) (by decide) (hts _ kw_546) (fun _ h9 => h9) rfl hin rfl (ty := (.array .boolean)) (by decide +kernel) rfl rfl hz_57 dRef_init_157 (fun H locs hW hS => ?_)
  refine lv_aload_n hx hb dRef_init_160 rfl (lv_at hl 0 rfl) ?_
  refine lv_sipush (v := 200) hx hb dRef_init_161 (by decide) ?_
  replace hf := g_bps hf
  obtain ⟨a_58, z_59, hz_59, hf⟩ := hf
  refine g_newI (atype := .int) hx hb (hts _ kw_39) rfl rfl hW hS hA (B := 200) (Nat.le_of_ble_eq_true rfl) (Nat.le_of_ble_eq_true rfl) (Nat.le_of_ble_eq_true rfl) hz_59 dRef_init_164 (fun H hW hS => ?_)
  refine W.cs (cells' := 20) (slots' := 8286) rfl rfl ?_
  replace hf := g_bd hf
  obtain ⟨z_60, hz_60, hf⟩ := hf
  refine g_putF hx hb hts in_Ref ty_Ref tyok_Ref nm_Ref hown hK hW hS (ci := 9) (C := "SecretRowsModel") (T := T_Ref) (N := 36) rfl (k := 27) (by decide) (hts _ kw_547) (fun _ h9 => h9) rfl hin rfl (ty := (.array .int)) (by decide +kernel) rfl rfl hz_60 dRef_init_166 (fun H locs hW hS => ?_)
  refine lv_aload_n hx hb dRef_init_169 rfl (lv_at hl 0 rfl) ?_
  refine lv_sipush (v := 200) hx hb dRef_init_170 (by decide) ?_
  replace hf := g_bps hf
  obtain ⟨a_61, z_62, hz_62, hf⟩ := hf
  refine g_newI (atype := .int) hx hb (hts _ kw_39) rfl rfl hW hS hA (B := 200) (Nat.le_of_ble_eq_true rfl) (Nat.le_of_ble_eq_true rfl) (Nat.le_of_ble_eq_true rfl) hz_62 dRef_init_173 (fun H hW hS => ?_)
  refine W.cs (cells' := 21) (slots' := 8486) rfl rfl ?_
  replace hf := g_bd hf
  obtain ⟨z_63, hz_63, hf⟩ := hf
  refine g_putF hx hb hts in_Ref ty_Ref tyok_Ref nm_Ref hown hK hW hS (ci := 9) (C := "SecretRowsModel") (T := T_Ref) (N := 36) rfl (k := 28) (by decide) (hts _ kw_548) (fun _ h9 => h9) rfl hin rfl (ty := (.array .int)) (by decide +kernel) rfl rfl hz_63 dRef_init_175 (fun H locs hW hS => ?_)
  refine lv_aload_n hx hb dRef_init_178 rfl (lv_at hl 0 rfl) ?_
  refine lv_sipush (v := 200) hx hb dRef_init_179 (by decide) ?_
  replace hf := g_bps hf
  obtain ⟨a_64, z_65, hz_65, hf⟩ := hf
  refine g_newI (atype := .int) hx hb (hts _ kw_39) rfl rfl hW hS hA (B := 200) (Nat.le_of_ble_eq_true rfl) (Nat.le_of_ble_eq_true rfl) (Nat.le_of_ble_eq_true rfl) hz_65 dRef_init_182 (fun H hW hS => ?_)
  refine W.cs (cells' := 22) (slots' := 8686) rfl rfl ?_
  replace hf := g_bd hf
  obtain ⟨z_66, hz_66, hf⟩ := hf
  refine g_putF hx hb hts in_Ref ty_Ref tyok_Ref nm_Ref hown hK hW hS (ci := 9) (C := "SecretRowsModel") (T := T_Ref) (N := 36) rfl (k := 29) (by decide) (hts _ kw_549) (fun _ h9 => h9) rfl hin rfl (ty := (.array .int)) (by decide +kernel) rfl rfl hz_66 dRef_init_184 (fun H locs hW hS => ?_)
  refine lv_aload_n hx hb dRef_init_187 rfl (lv_at hl 0 rfl) ?_
  refine lv_bipush (v := 20) hx hb dRef_init_188 (by decide) ?_
  replace hf := g_bps hf
  obtain ⟨a_67, z_68, hz_68, hf⟩ := hf
  refine g_newI (atype := .int) hx hb (hts _ kw_39) rfl rfl hW hS hA (B := 20) (Nat.le_of_ble_eq_true rfl) (Nat.le_of_ble_eq_true rfl) (Nat.le_of_ble_eq_true rfl) hz_68 dRef_init_190 (fun H hW hS => ?_)
  refine W.cs (cells' := 23) (slots' := 8706) rfl rfl ?_
  replace hf := g_bd hf
  obtain ⟨z_69, hz_69, hf⟩ := hf
  refine g_putF hx hb hts in_Ref ty_Ref tyok_Ref nm_Ref hown hK hW hS (ci := 9) (C := "SecretRowsModel") (T := T_Ref) (N := 36) rfl (k := 30) (by decide) (hts _ kw_550) (fun _ h9 => h9) rfl hin rfl (ty := (.array .int)) (by decide +kernel) rfl rfl hz_69 dRef_init_192 (fun H locs hW hS => ?_)
  refine lv_aload_n hx hb dRef_init_195 rfl (lv_at hl 0 rfl) ?_
  refine lv_bipush (v := 20) hx hb dRef_init_196 (by decide) ?_
  replace hf := g_bps hf
  obtain ⟨a_70, z_71, hz_71, hf⟩ := hf
  refine g_newI (atype := .int) hx hb (hts _ kw_39) rfl rfl hW hS hA (B := 20) (Nat.le_of_ble_eq_true rfl) (Nat.le_of_ble_eq_true rfl) (Nat.le_of_ble_eq_true rfl) hz_71 dRef_init_198 (fun H hW hS => ?_)
  refine W.cs (cells' := 24) (slots' := 8726) rfl rfl ?_
  replace hf := g_bd hf
  obtain ⟨z_72, hz_72, hf⟩ := hf
  refine g_putF hx hb hts in_Ref ty_Ref tyok_Ref nm_Ref hown hK hW hS (ci := 9) (C := "SecretRowsModel") (T := T_Ref) (N := 36) rfl (k := 31) (by decide) (hts _ kw_551) (fun _ h9 => h9) rfl hin rfl (ty := (.array .int)) (by decide +kernel) rfl rfl hz_72 dRef_init_200 (fun H locs hW hS => ?_)
  refine lv_aload_n hx hb dRef_init_203 rfl (lv_at hl 0 rfl) ?_
  refine lv_bipush (v := 20) hx hb dRef_init_204 (by decide) ?_
  replace hf := g_bps hf
  obtain ⟨a_73, z_74, hz_74, hf⟩ := hf
  refine g_newI (atype := .int) hx hb (hts _ kw_39) rfl rfl hW hS hA (B := 20) (Nat.le_of_ble_eq_true rfl) (Nat.le_of_ble_eq_true rfl) (Nat.le_of_ble_eq_true rfl) hz_74 dRef_init_206 (fun H hW hS => ?_)
  refine W.cs (cells' := 25) (slots' := 8746) rfl rfl ?_
  replace hf := g_bd hf
  obtain ⟨z_75, hz_75, hf⟩ := hf
  refine g_putF hx hb hts in_Ref ty_Ref tyok_Ref nm_Ref hown hK hW hS (ci := 9) (C := "SecretRowsModel") (T := T_Ref) (N := 36) rfl (k := 32) (by decide) (hts _ kw_552) (fun _ h9 => h9) rfl hin rfl (ty := (.array .int)) (by decide +kernel) rfl rfl hz_75 dRef_init_208 (fun H locs hW hS => ?_)
  refine lv_aload_n hx hb dRef_init_211 rfl (lv_at hl 0 rfl) ?_
  refine lv_iconst (v := (-1)) hx hb dRef_init_212 (by decide) ?_
  replace hf := g_bd hf
  obtain ⟨z_76, hz_76, hf⟩ := hf
  refine g_put hx hb hts in_Ref ty_Ref tyok_Ref nm_Ref hown hK hW hS (ci := 9) (C := "SecretRowsModel") (T := T_Ref) (N := 36) rfl (k := 33) (by decide) (hts _ kw_553) (fun _ h9 => h9) rfl (ty := .int) (by decide +kernel) rfl rfl hz_76 dRef_init_213 (fun H locs hW hS => ?_)
  cases hf
  exact g_retv hx hb hr hlocks hW hS (Nat.le_of_ble_eq_true rfl) (Nat.le_of_ble_eq_true rfl) dRef_init_216

def fRef_isSecret (n : Nat) (a0 : Nat) (i1 : Int32) (z : gS) : Option (Int32 × gS) :=
    if i1 < 0 then (
    some (0, z))
    else (
    (g_fI z a0 9 2).bind fun v_2 =>
    if v_2 ≤ i1 then (
    some (0, z))
    else (
    some (1, z)))
set_option maxHeartbeats 4000000 in
set_option maxRecDepth 100000 in
theorem mRef_isSecret (l : Launch) (D : va_G) (A : Nat → Prop) (n : Nat) (z z' : gS) (a0 : Nat) (i1 : Int32) (r : Int32) (hf : fRef_isSecret n a0 i1 z = some (r, z')) : Met l yRef_isSecret wsRef_isSecret ({ frames := 0, cells := 0, slots := 0, locals := 0 }) (g_P D vwCl gNN gOO A z [.ref a0, .int i1]) (g_Qi D vwCl A r z') 0 0 A := by
  refine Met.ofW (cc := cRef_isSecret) (maxL := 2) (ret := (some .boolean)) (by decide) rfl ?_
  intro p e s m args below meth c s₁ B hml hv
  obtain ⟨rfl, hW, hK, hA0⟩ := hv
  have C : g_C p s m meth c _ cRef_isSecret 2 (some .boolean) "SecretRowsModel" gW D vwCl gNN gOO A := ⟨B.exec, B.bytes, B.returns, hml, findClass_of_methodNamed B.named, fun w hw => atoms_spec (ws := wsRef_isSecret) B.pre w (List.mem_cons_of_mem _ hw), B.notSynchronized, hK, fun q hq => hA0 q (by rw [← hW.1]; exact hq)⟩
  have hS : va_S A s.heap s.heap [] := va_S.rf
  have hl := lv_entry ([.ref a0, .int i1]) (n := 2) (Nat.le_of_ble_eq_true rfl)
  rw [lg_entry_eq]
  generalize (lg_sl ([.ref a0, .int i1]) ++ List.replicate (2 - (lg_sl ([.ref a0, .int i1])).length) Slot.unset).toArray = ls at hl ⊢
  have hl : lv_has ls 2 [(0, .ref a0), (1, .int i1)] := hl
  obtain ⟨hx, hb, hr, hml, hown, hts, hlocks, hK, hA⟩ := id C
  unfold fRef_isSecret at hf
  refine lv_iload_n hx hb dRef_isSecret_0 rfl (lv_at hl 1 rfl) ?_
  refine lv_if_lt (tgt := 16) hx hb dRef_isSecret_1 (by decide) (fun c_1 => ?_) (fun c_1 => ?_)
  · replace hf := g_it c_1 hf
    refine lv_iconst (v := 0) hx hb dRef_isSecret_16 (by decide) ?_
    cases hf
    exact g_retz hx hb hr rfl hlocks hW hS (Nat.le_of_ble_eq_true rfl) (Nat.le_of_ble_eq_true rfl) dRef_isSecret_17
  · replace hf := g_if c_1 hf
    refine lv_iload_n hx hb dRef_isSecret_4 rfl (lv_at hl 1 rfl) ?_
    refine lv_aload_n hx hb dRef_isSecret_5 rfl (lv_at hl 0 rfl) ?_
    replace hf := g_bd hf
    obtain ⟨v_2, hv_2, hf⟩ := hf
    refine g_getI hx hb hts in_Ref hown hK hW (ci := 9) (C := "SecretRowsModel") (T := T_Ref) (N := 36) rfl (k := 2) (by decide) (hts _ kw_522) (fun _ h9 => h9) hv_2 dRef_isSecret_6 ?_
    refine lv_icmp_ge (tgt := 16) hx hb dRef_isSecret_9 (by decide) (fun c_3 => ?_) (fun c_3 => ?_)
    · replace hf := g_it c_3 hf
      refine lv_iconst (v := 0) hx hb dRef_isSecret_16 (by decide) ?_
      cases hf
      exact g_retz hx hb hr rfl hlocks hW hS (Nat.le_of_ble_eq_true rfl) (Nat.le_of_ble_eq_true rfl) dRef_isSecret_17
    · replace hf := g_if c_3 hf
      refine lv_iconst (v := 1) hx hb dRef_isSecret_12 (by decide) ?_
      refine lv_goto (tgt := 17) hx hb dRef_isSecret_13 (by decide) ?_
      cases hf
      exact g_retz hx hb hr rfl hlocks hW hS (Nat.le_of_ble_eq_true rfl) (Nat.le_of_ble_eq_true rfl) dRef_isSecret_17

def fRef_isStep (n : Nat) (a0 : Nat) (i1 : Int32) (z : gS) : Option (Int32 × gS) :=
    if i1 < 0 then (
    some (0, z))
    else (
    (g_fI z a0 9 4).bind fun v_2 =>
    if v_2 ≤ i1 then (
    some (0, z))
    else (
    some (1, z)))
set_option maxHeartbeats 4000000 in
set_option maxRecDepth 100000 in
theorem mRef_isStep (l : Launch) (D : va_G) (A : Nat → Prop) (n : Nat) (z z' : gS) (a0 : Nat) (i1 : Int32) (r : Int32) (hf : fRef_isStep n a0 i1 z = some (r, z')) : Met l yRef_isStep wsRef_isStep ({ frames := 0, cells := 0, slots := 0, locals := 0 }) (g_P D vwCl gNN gOO A z [.ref a0, .int i1]) (g_Qi D vwCl A r z') 0 0 A := by
  refine Met.ofW (cc := cRef_isStep) (maxL := 2) (ret := (some .boolean)) (by decide) rfl ?_
  intro p e s m args below meth c s₁ B hml hv
  obtain ⟨rfl, hW, hK, hA0⟩ := hv
  have C : g_C p s m meth c _ cRef_isStep 2 (some .boolean) "SecretRowsModel" gW D vwCl gNN gOO A := ⟨B.exec, B.bytes, B.returns, hml, findClass_of_methodNamed B.named, fun w hw => atoms_spec (ws := wsRef_isStep) B.pre w (List.mem_cons_of_mem _ hw), B.notSynchronized, hK, fun q hq => hA0 q (by rw [← hW.1]; exact hq)⟩
  have hS : va_S A s.heap s.heap [] := va_S.rf
  have hl := lv_entry ([.ref a0, .int i1]) (n := 2) (Nat.le_of_ble_eq_true rfl)
  rw [lg_entry_eq]
  generalize (lg_sl ([.ref a0, .int i1]) ++ List.replicate (2 - (lg_sl ([.ref a0, .int i1])).length) Slot.unset).toArray = ls at hl ⊢
  have hl : lv_has ls 2 [(0, .ref a0), (1, .int i1)] := hl
  obtain ⟨hx, hb, hr, hml, hown, hts, hlocks, hK, hA⟩ := id C
  unfold fRef_isStep at hf
  refine lv_iload_n hx hb dRef_isStep_0 rfl (lv_at hl 1 rfl) ?_
  refine lv_if_lt (tgt := 16) hx hb dRef_isStep_1 (by decide) (fun c_1 => ?_) (fun c_1 => ?_)
  · replace hf := g_it c_1 hf
    refine lv_iconst (v := 0) hx hb dRef_isStep_16 (by decide) ?_
    cases hf
    exact g_retz hx hb hr rfl hlocks hW hS (Nat.le_of_ble_eq_true rfl) (Nat.le_of_ble_eq_true rfl) dRef_isStep_17
  · replace hf := g_if c_1 hf
    refine lv_iload_n hx hb dRef_isStep_4 rfl (lv_at hl 1 rfl) ?_
    refine lv_aload_n hx hb dRef_isStep_5 rfl (lv_at hl 0 rfl) ?_
    replace hf := g_bd hf
    obtain ⟨v_2, hv_2, hf⟩ := hf
    refine g_getI hx hb hts in_Ref hown hK hW (ci := 9) (C := "SecretRowsModel") (T := T_Ref) (N := 36) rfl (k := 4) (by decide) (hts _ kw_524) (fun _ h9 => h9) hv_2 dRef_isStep_6 ?_
    refine lv_icmp_ge (tgt := 16) hx hb dRef_isStep_9 (by decide) (fun c_3 => ?_) (fun c_3 => ?_)
    · replace hf := g_it c_3 hf
      refine lv_iconst (v := 0) hx hb dRef_isStep_16 (by decide) ?_
      cases hf
      exact g_retz hx hb hr rfl hlocks hW hS (Nat.le_of_ble_eq_true rfl) (Nat.le_of_ble_eq_true rfl) dRef_isStep_17
    · replace hf := g_if c_3 hf
      refine lv_iconst (v := 1) hx hb dRef_isStep_12 (by decide) ?_
      refine lv_goto (tgt := 17) hx hb dRef_isStep_13 (by decide) ?_
      cases hf
      exact g_retz hx hb hr rfl hlocks hW hS (Nat.le_of_ble_eq_true rfl) (Nat.le_of_ble_eq_true rfl) dRef_isStep_17

def fRef_secret (n : Nat) (a0 : Nat) (i1 : Int32) (i2 : Int32) (i3 : Int32) (z : gS) : Option (Int32 × gS) :=
    (g_pF z a0 9 0 (.int 0)).bind fun z_1 =>
    (g_fI z_1 a0 9 2).bind fun v_2 =>
    if v_2 = 10 then (
    some ((-1), z_1))
    else (
    (g_fR z_1 a0 9 10).bind fun r_4 =>
    (g_fI z_1 a0 9 2).bind fun v_5 =>
    r_4.bind fun a_6 =>
    (g_stI z_1 .int a_6 v_5 i1).bind fun z_7 =>
    (g_fR z_7 a0 9 11).bind fun r_8 =>
    (g_fI z_7 a0 9 2).bind fun v_9 =>
    r_8.bind fun a_10 =>
    (g_stI z_7 .int a_10 v_9 i2).bind fun z_11 =>
    (g_fR z_11 a0 9 12).bind fun r_12 =>
    (g_fI z_11 a0 9 2).bind fun v_13 =>
    r_12.bind fun a_14 =>
    (g_stI z_11 .int a_14 v_13 i3).bind fun z_15 =>
    (g_fR z_15 a0 9 13).bind fun r_16 =>
    (g_fI z_15 a0 9 2).bind fun v_17 =>
    r_16.bind fun a_18 =>
    (g_stI z_15 .int a_18 v_17 (-1)).bind fun z_19 =>
    (g_fR z_19 a0 9 14).bind fun r_20 =>
    (g_fI z_19 a0 9 2).bind fun v_21 =>
    r_20.bind fun a_22 =>
    (g_stI z_19 .int a_22 v_21 (-1)).bind fun z_23 =>
    (g_fI z_23 a0 9 2).bind fun v_24 =>
    (g_pF z_23 a0 9 2 (.int (v_24 + 1))).bind fun z_25 =>
    (g_fI z_25 a0 9 2).bind fun v_26 =>
    some ((v_26 - 1), z_25))
set_option maxHeartbeats 4000000 in
set_option maxRecDepth 100000 in
theorem mRef_secret (l : Launch) (D : va_G) (A : Nat → Prop) (n : Nat) (z z' : gS) (a0 : Nat) (i1 : Int32) (i2 : Int32) (i3 : Int32) (r : Int32) (hf : fRef_secret n a0 i1 i2 i3 z = some (r, z')) : Met l yRef_secret wsRef_secret ({ frames := 0, cells := 0, slots := 0, locals := 0 }) (g_P D vwCl gNN gOO A z [.ref a0, .int i1, .int i2, .int i3]) (g_Qi D vwCl A r z') 0 0 A := by
  refine Met.ofW (cc := cRef_secret) (maxL := 4) (ret := (some .int)) (by decide) rfl ?_
  intro p e s m args below meth c s₁ B hml hv
  obtain ⟨rfl, hW, hK, hA0⟩ := hv
  have C : g_C p s m meth c _ cRef_secret 4 (some .int) "SecretRowsModel" gW D vwCl gNN gOO A := ⟨B.exec, B.bytes, B.returns, hml, findClass_of_methodNamed B.named, fun w hw => atoms_spec (ws := wsRef_secret) B.pre w (List.mem_cons_of_mem _ hw), B.notSynchronized, hK, fun q hq => hA0 q (by rw [← hW.1]; exact hq)⟩
  have hS : va_S A s.heap s.heap [] := va_S.rf
  have hl := lv_entry ([.ref a0, .int i1, .int i2, .int i3]) (n := 4) (Nat.le_of_ble_eq_true rfl)
  rw [lg_entry_eq]
  generalize (lg_sl ([.ref a0, .int i1, .int i2, .int i3]) ++ List.replicate (4 - (lg_sl ([.ref a0, .int i1, .int i2, .int i3])).length) Slot.unset).toArray = ls at hl ⊢
  have hl : lv_has ls 4 [(0, .ref a0), (1, .int i1), (2, .int i2), (3, .int i3)] := hl
  obtain ⟨hx, hb, hr, hml, hown, hts, hlocks, hK, hA⟩ := id C
  unfold fRef_secret at hf
  refine lv_aload_n hx hb dRef_secret_0 rfl (lv_at hl 0 rfl) ?_
  refine lv_iconst (v := 0) hx hb dRef_secret_1 (by decide) ?_
  replace hf := g_bd hf
  obtain ⟨z_1, hz_1, hf⟩ := hf
  refine g_put hx hb hts in_Ref ty_Ref tyok_Ref nm_Ref hown hK hW hS (ci := 9) (C := "SecretRowsModel") (T := T_Ref) (N := 36) rfl (k := 0) (by decide) (hts _ kw_520) (fun _ h9 => h9) rfl (ty := .int) (by decide +kernel) rfl rfl hz_1 dRef_secret_2 (fun H locs hW hS => ?_)
  refine lv_aload_n hx hb dRef_secret_5 rfl (lv_at hl 0 rfl) ?_
  replace hf := g_bd hf
  obtain ⟨v_2, hv_2, hf⟩ := hf
  refine g_getI hx hb hts in_Ref hown hK hW (ci := 9) (C := "SecretRowsModel") (T := T_Ref) (N := 36) rfl (k := 2) (by decide) (hts _ kw_522) (fun _ h9 => h9) hv_2 dRef_secret_6 ?_
  refine lv_bipush (v := 10) hx hb dRef_secret_9 (by decide) ?_
  refine lv_icmp_ne (tgt := 16) hx hb dRef_secret_11 (by decide) (fun c_3 => ?_) (fun c_3 => ?_)
  · replace hf := g_if c_3 hf
    refine lv_aload_n hx hb dRef_secret_16 rfl (lv_at hl 0 rfl) ?_
    replace hf := g_bd hf
    obtain ⟨r_4, hr_4, hf⟩ := hf
    refine g_getR hx hb hts in_Ref hown hK hW (ci := 9) (C := "SecretRowsModel") (T := T_Ref) (N := 36) rfl (k := 10) (by decide) (hts _ kw_530) (fun _ h9 => h9) hr_4 dRef_secret_17 ?_
    refine lv_aload_n hx hb dRef_secret_20 rfl (lv_at hl 0 rfl) ?_
    replace hf := g_bd hf
    obtain ⟨v_5, hv_5, hf⟩ := hf
    refine g_getI hx hb hts in_Ref hown hK hW (ci := 9) (C := "SecretRowsModel") (T := T_Ref) (N := 36) rfl (k := 2) (by decide) (hts _ kw_522) (fun _ h9 => h9) hv_5 dRef_secret_21 ?_
    refine lv_iload_n hx hb dRef_secret_24 rfl (lv_at hl 1 rfl) ?_
    replace hf := g_bd hf
    obtain ⟨a_6, ea_6, hf⟩ := hf
    subst ea_6
    refine W.eq (g2 := F0 m 25 _ [.int i1, .int v_5, .ref a_6]) rfl ?_
    replace hf := g_bd hf
    obtain ⟨z_7, hz_7, hf⟩ := hf
    refine g_ast_i hx hb hW hS hz_7 dRef_secret_25 (fun H locs hW hS => ?_)
    refine lv_aload_n hx hb dRef_secret_26 rfl (lv_at hl 0 rfl) ?_
    replace hf := g_bd hf
    obtain ⟨r_8, hr_8, hf⟩ := hf
    refine g_getR hx hb hts in_Ref hown hK hW (ci := 9) (C := "SecretRowsModel") (T := T_Ref) (N := 36) rfl (k := 11) (by decide) (hts _ kw_531) (fun _ h9 => h9) hr_8 dRef_secret_27 ?_
    refine lv_aload_n hx hb dRef_secret_30 rfl (lv_at hl 0 rfl) ?_
    replace hf := g_bd hf
    obtain ⟨v_9, hv_9, hf⟩ := hf
    refine g_getI hx hb hts in_Ref hown hK hW (ci := 9) (C := "SecretRowsModel") (T := T_Ref) (N := 36) rfl (k := 2) (by decide) (hts _ kw_522) (fun _ h9 => h9) hv_9 dRef_secret_31 ?_
    refine lv_iload_n hx hb dRef_secret_34 rfl (lv_at hl 2 rfl) ?_
    replace hf := g_bd hf
    obtain ⟨a_10, ea_10, hf⟩ := hf
    subst ea_10
    refine W.eq (g2 := F0 m 35 _ [.int i2, .int v_9, .ref a_10]) rfl ?_
    replace hf := g_bd hf
    obtain ⟨z_11, hz_11, hf⟩ := hf
    refine g_ast_i hx hb hW hS hz_11 dRef_secret_35 (fun H locs hW hS => ?_)
    refine lv_aload_n hx hb dRef_secret_36 rfl (lv_at hl 0 rfl) ?_
    replace hf := g_bd hf
    obtain ⟨r_12, hr_12, hf⟩ := hf
    refine g_getR hx hb hts in_Ref hown hK hW (ci := 9) (C := "SecretRowsModel") (T := T_Ref) (N := 36) rfl (k := 12) (by decide) (hts _ kw_532) (fun _ h9 => h9) hr_12 dRef_secret_37 ?_
    refine lv_aload_n hx hb dRef_secret_40 rfl (lv_at hl 0 rfl) ?_
    replace hf := g_bd hf
    obtain ⟨v_13, hv_13, hf⟩ := hf
    refine g_getI hx hb hts in_Ref hown hK hW (ci := 9) (C := "SecretRowsModel") (T := T_Ref) (N := 36) rfl (k := 2) (by decide) (hts _ kw_522) (fun _ h9 => h9) hv_13 dRef_secret_41 ?_
    refine lv_iload_n hx hb dRef_secret_44 rfl (lv_at hl 3 rfl) ?_
    replace hf := g_bd hf
    obtain ⟨a_14, ea_14, hf⟩ := hf
    subst ea_14
    refine W.eq (g2 := F0 m 45 _ [.int i3, .int v_13, .ref a_14]) rfl ?_
    replace hf := g_bd hf
    obtain ⟨z_15, hz_15, hf⟩ := hf
    refine g_ast_i hx hb hW hS hz_15 dRef_secret_45 (fun H locs hW hS => ?_)
    refine lv_aload_n hx hb dRef_secret_46 rfl (lv_at hl 0 rfl) ?_
    replace hf := g_bd hf
    obtain ⟨r_16, hr_16, hf⟩ := hf
    refine g_getR hx hb hts in_Ref hown hK hW (ci := 9) (C := "SecretRowsModel") (T := T_Ref) (N := 36) rfl (k := 13) (by decide) (hts _ kw_533) (fun _ h9 => h9) hr_16 dRef_secret_47 ?_
    refine lv_aload_n hx hb dRef_secret_50 rfl (lv_at hl 0 rfl) ?_
    replace hf := g_bd hf
    obtain ⟨v_17, hv_17, hf⟩ := hf
    refine g_getI hx hb hts in_Ref hown hK hW (ci := 9) (C := "SecretRowsModel") (T := T_Ref) (N := 36) rfl (k := 2) (by decide) (hts _ kw_522) (fun _ h9 => h9) hv_17 dRef_secret_51 ?_
    refine lv_iconst (v := (-1)) hx hb dRef_secret_54 (by decide) ?_
    replace hf := g_bd hf
    obtain ⟨a_18, ea_18, hf⟩ := hf
    subst ea_18
    refine W.eq (g2 := F0 m 55 _ [.int (-1), .int v_17, .ref a_18]) rfl ?_
    replace hf := g_bd hf
    obtain ⟨z_19, hz_19, hf⟩ := hf
    refine g_ast_i hx hb hW hS hz_19 dRef_secret_55 (fun H locs hW hS => ?_)
    refine lv_aload_n hx hb dRef_secret_56 rfl (lv_at hl 0 rfl) ?_
    replace hf := g_bd hf
    obtain ⟨r_20, hr_20, hf⟩ := hf
    refine g_getR hx hb hts in_Ref hown hK hW (ci := 9) (C := "SecretRowsModel") (T := T_Ref) (N := 36) rfl (k := 14) (by decide) (hts _ kw_534) (fun _ h9 => h9) hr_20 dRef_secret_57 ?_
    refine lv_aload_n hx hb dRef_secret_60 rfl (lv_at hl 0 rfl) ?_
    replace hf := g_bd hf
    obtain ⟨v_21, hv_21, hf⟩ := hf
    refine g_getI hx hb hts in_Ref hown hK hW (ci := 9) (C := "SecretRowsModel") (T := T_Ref) (N := 36) rfl (k := 2) (by decide) (hts _ kw_522) (fun _ h9 => h9) hv_21 dRef_secret_61 ?_
    refine lv_iconst (v := (-1)) hx hb dRef_secret_64 (by decide) ?_
    replace hf := g_bd hf
    obtain ⟨a_22, ea_22, hf⟩ := hf
    subst ea_22
    refine W.eq (g2 := F0 m 65 _ [.int (-1), .int v_21, .ref a_22]) rfl ?_
    replace hf := g_bd hf
    obtain ⟨z_23, hz_23, hf⟩ := hf
    refine g_ast_i hx hb hW hS hz_23 dRef_secret_65 (fun H locs hW hS => ?_)
    refine lv_aload_n hx hb dRef_secret_66 rfl (lv_at hl 0 rfl) ?_
    refine lv_dup hx hb dRef_secret_67 rfl ?_
    replace hf := g_bd hf
    obtain ⟨v_24, hv_24, hf⟩ := hf
    refine g_getI hx hb hts in_Ref hown hK hW (ci := 9) (C := "SecretRowsModel") (T := T_Ref) (N := 36) rfl (k := 2) (by decide) (hts _ kw_522) (fun _ h9 => h9) hv_24 dRef_secret_68 ?_
    refine lv_iconst (v := 1) hx hb dRef_secret_71 (by decide) ?_
    refine lv_iadd hx hb dRef_secret_72 ?_
    replace hf := g_bd hf
    obtain ⟨z_25, hz_25, hf⟩ := hf
    refine g_put hx hb hts in_Ref ty_Ref tyok_Ref nm_Ref hown hK hW hS (ci := 9) (C := "SecretRowsModel") (T := T_Ref) (N := 36) rfl (k := 2) (by decide) (hts _ kw_522) (fun _ h9 => h9) rfl (ty := .int) (by decide +kernel) rfl rfl hz_25 dRef_secret_73 (fun H locs hW hS => ?_)
    refine lv_aload_n hx hb dRef_secret_76 rfl (lv_at hl 0 rfl) ?_
    replace hf := g_bd hf
    obtain ⟨v_26, hv_26, hf⟩ := hf
    refine g_getI hx hb hts in_Ref hown hK hW (ci := 9) (C := "SecretRowsModel") (T := T_Ref) (N := 36) rfl (k := 2) (by decide) (hts _ kw_522) (fun _ h9 => h9) hv_26 dRef_secret_77 ?_
    refine lv_iconst (v := 1) hx hb dRef_secret_80 (by decide) ?_
    refine lv_isub hx hb dRef_secret_81 ?_
    cases hf
    exact g_reti hx hb hr hlocks hW hS (Nat.le_of_ble_eq_true rfl) (Nat.le_of_ble_eq_true rfl) dRef_secret_82
  · replace hf := g_it c_3 hf
    refine lv_iconst (v := (-1)) hx hb dRef_secret_14 (by decide) ?_
    cases hf
    exact g_reti hx hb hr hlocks hW hS (Nat.le_of_ble_eq_true rfl) (Nat.le_of_ble_eq_true rfl) dRef_secret_15

def fRef_type (n : Nat) (a0 : Nat) (i1 : Int32) (z : gS) : Option (Int32 × gS) :=
    (g_pF z a0 9 0 (.int 0)).bind fun z_1 =>
    if i1 < 32 then (
    some (0, z_1))
    else (
    if 126 < i1 then (
    some (0, z_1))
    else (
    (g_fI z_1 a0 9 18).bind fun v_4 =>
    if v_4 = 300 then (
    some (0, z_1))
    else (
    (g_fR z_1 a0 9 17).bind fun r_6 =>
    (g_fI z_1 a0 9 18).bind fun v_7 =>
    r_6.bind fun a_8 =>
    (g_stI z_1 .int a_8 v_7 i1).bind fun z_9 =>
    (g_fI z_9 a0 9 18).bind fun v_10 =>
    (g_pF z_9 a0 9 18 (.int (v_10 + 1))).bind fun z_11 =>
    some (1, z_11))))
set_option maxHeartbeats 4000000 in
set_option maxRecDepth 100000 in
theorem mRef_type (l : Launch) (D : va_G) (A : Nat → Prop) (n : Nat) (z z' : gS) (a0 : Nat) (i1 : Int32) (r : Int32) (hf : fRef_type n a0 i1 z = some (r, z')) : Met l yRef_type wsRef_type ({ frames := 0, cells := 0, slots := 0, locals := 0 }) (g_P D vwCl gNN gOO A z [.ref a0, .int i1]) (g_Qi D vwCl A r z') 0 0 A := by
  refine Met.ofW (cc := cRef_type) (maxL := 2) (ret := (some .boolean)) (by decide) rfl ?_
  intro p e s m args below meth c s₁ B hml hv
  obtain ⟨rfl, hW, hK, hA0⟩ := hv
  have C : g_C p s m meth c _ cRef_type 2 (some .boolean) "SecretRowsModel" gW D vwCl gNN gOO A := ⟨B.exec, B.bytes, B.returns, hml, findClass_of_methodNamed B.named, fun w hw => atoms_spec (ws := wsRef_type) B.pre w (List.mem_cons_of_mem _ hw), B.notSynchronized, hK, fun q hq => hA0 q (by rw [← hW.1]; exact hq)⟩
  have hS : va_S A s.heap s.heap [] := va_S.rf
  have hl := lv_entry ([.ref a0, .int i1]) (n := 2) (Nat.le_of_ble_eq_true rfl)
  rw [lg_entry_eq]
  generalize (lg_sl ([.ref a0, .int i1]) ++ List.replicate (2 - (lg_sl ([.ref a0, .int i1])).length) Slot.unset).toArray = ls at hl ⊢
  have hl : lv_has ls 2 [(0, .ref a0), (1, .int i1)] := hl
  obtain ⟨hx, hb, hr, hml, hown, hts, hlocks, hK, hA⟩ := id C
  unfold fRef_type at hf
  refine lv_aload_n hx hb dRef_type_0 rfl (lv_at hl 0 rfl) ?_
  refine lv_iconst (v := 0) hx hb dRef_type_1 (by decide) ?_
  replace hf := g_bd hf
  obtain ⟨z_1, hz_1, hf⟩ := hf
  refine g_put hx hb hts in_Ref ty_Ref tyok_Ref nm_Ref hown hK hW hS (ci := 9) (C := "SecretRowsModel") (T := T_Ref) (N := 36) rfl (k := 0) (by decide) (hts _ kw_520) (fun _ h9 => h9) rfl (ty := .int) (by decide +kernel) rfl rfl hz_1 dRef_type_2 (fun H locs hW hS => ?_)
  refine lv_iload_n hx hb dRef_type_5 rfl (lv_at hl 1 rfl) ?_
  refine lv_bipush (v := 32) hx hb dRef_type_6 (by decide) ?_
  refine lv_icmp_lt (tgt := 27) hx hb dRef_type_8 (by decide) (fun c_2 => ?_) (fun c_2 => ?_)
  · replace hf := g_it c_2 hf
    refine lv_iconst (v := 0) hx hb dRef_type_27 (by decide) ?_
    cases hf
    exact g_retz hx hb hr rfl hlocks hW hS (Nat.le_of_ble_eq_true rfl) (Nat.le_of_ble_eq_true rfl) dRef_type_28
  · replace hf := g_if c_2 hf
    refine lv_iload_n hx hb dRef_type_11 rfl (lv_at hl 1 rfl) ?_
    refine lv_bipush (v := 126) hx hb dRef_type_12 (by decide) ?_
    refine lv_icmp_gt (tgt := 27) hx hb dRef_type_14 (by decide) (fun c_3 => ?_) (fun c_3 => ?_)
    · replace hf := g_it c_3 hf
      refine lv_iconst (v := 0) hx hb dRef_type_27 (by decide) ?_
      cases hf
      exact g_retz hx hb hr rfl hlocks hW hS (Nat.le_of_ble_eq_true rfl) (Nat.le_of_ble_eq_true rfl) dRef_type_28
    · replace hf := g_if c_3 hf
      refine lv_aload_n hx hb dRef_type_17 rfl (lv_at hl 0 rfl) ?_
      replace hf := g_bd hf
      obtain ⟨v_4, hv_4, hf⟩ := hf
      refine g_getI hx hb hts in_Ref hown hK hW (ci := 9) (C := "SecretRowsModel") (T := T_Ref) (N := 36) rfl (k := 18) (by decide) (hts _ kw_538) (fun _ h9 => h9) hv_4 dRef_type_18 ?_
      refine lv_sipush (v := 300) hx hb dRef_type_21 (by decide) ?_
      refine lv_icmp_ne (tgt := 29) hx hb dRef_type_24 (by decide) (fun c_5 => ?_) (fun c_5 => ?_)
      · replace hf := g_if c_5 hf
        refine lv_aload_n hx hb dRef_type_29 rfl (lv_at hl 0 rfl) ?_
        replace hf := g_bd hf
        obtain ⟨r_6, hr_6, hf⟩ := hf
        refine g_getR hx hb hts in_Ref hown hK hW (ci := 9) (C := "SecretRowsModel") (T := T_Ref) (N := 36) rfl (k := 17) (by decide) (hts _ kw_537) (fun _ h9 => h9) hr_6 dRef_type_30 ?_
        refine lv_aload_n hx hb dRef_type_33 rfl (lv_at hl 0 rfl) ?_
        replace hf := g_bd hf
        obtain ⟨v_7, hv_7, hf⟩ := hf
        refine g_getI hx hb hts in_Ref hown hK hW (ci := 9) (C := "SecretRowsModel") (T := T_Ref) (N := 36) rfl (k := 18) (by decide) (hts _ kw_538) (fun _ h9 => h9) hv_7 dRef_type_34 ?_
        refine lv_iload_n hx hb dRef_type_37 rfl (lv_at hl 1 rfl) ?_
        replace hf := g_bd hf
        obtain ⟨a_8, ea_8, hf⟩ := hf
        subst ea_8
        refine W.eq (g2 := F0 m 38 _ [.int i1, .int v_7, .ref a_8]) rfl ?_
        replace hf := g_bd hf
        obtain ⟨z_9, hz_9, hf⟩ := hf
        refine g_ast_i hx hb hW hS hz_9 dRef_type_38 (fun H locs hW hS => ?_)
        refine lv_aload_n hx hb dRef_type_39 rfl (lv_at hl 0 rfl) ?_
        refine lv_dup hx hb dRef_type_40 rfl ?_
        replace hf := g_bd hf
        obtain ⟨v_10, hv_10, hf⟩ := hf
        refine g_getI hx hb hts in_Ref hown hK hW (ci := 9) (C := "SecretRowsModel") (T := T_Ref) (N := 36) rfl (k := 18) (by decide) (hts _ kw_538) (fun _ h9 => h9) hv_10 dRef_type_41 ?_
        refine lv_iconst (v := 1) hx hb dRef_type_44 (by decide) ?_
        refine lv_iadd hx hb dRef_type_45 ?_
        replace hf := g_bd hf
        obtain ⟨z_11, hz_11, hf⟩ := hf
        refine g_put hx hb hts in_Ref ty_Ref tyok_Ref nm_Ref hown hK hW hS (ci := 9) (C := "SecretRowsModel") (T := T_Ref) (N := 36) rfl (k := 18) (by decide) (hts _ kw_538) (fun _ h9 => h9) rfl (ty := .int) (by decide +kernel) rfl rfl hz_11 dRef_type_46 (fun H locs hW hS => ?_)
        refine lv_iconst (v := 1) hx hb dRef_type_49 (by decide) ?_
        cases hf
        exact g_retz hx hb hr rfl hlocks hW hS (Nat.le_of_ble_eq_true rfl) (Nat.le_of_ble_eq_true rfl) dRef_type_50
      · replace hf := g_it c_5 hf
        refine lv_iconst (v := 0) hx hb dRef_type_27 (by decide) ?_
        cases hf
        exact g_retz hx hb hr rfl hlocks hW hS (Nat.le_of_ble_eq_true rfl) (Nat.le_of_ble_eq_true rfl) dRef_type_28

def fRef_isTaped_L24 (n : Nat) : Nat → Nat → Int32 → Int32 → Int32 → Int32 → gS → Option (Int32 × gS)
  | 0, _, _, _, _, _, _ => none
  | k + 1, a0b, i1b, i2b, i3b, i4b, z =>
    if i2b ≤ i4b then (
    if i3b = 0 ∨ i3b = 1 then (
    some (i3b, z)) else none)
    else (
    if i3b = 0 then (
    if i3b = 0 ∨ i3b = 1 then (
    some (i3b, z)) else none)
    else (
    (g_fR z a0b 9 9).bind fun r_10 =>
    r_10.bind fun a_11 =>
    (g_ldI z .int a_11 ((12 * i1b) + i4b)).bind fun v_12 =>
    (g_fR z a0b 9 17).bind fun r_13 =>
    r_13.bind fun a_14 =>
    (g_ldI z .int a_14 i4b).bind fun v_15 =>
    if v_12 = v_15 then (
    fRef_isTaped_L24 n k a0b i1b i2b 1 (i4b + 1) z)
    else (
    fRef_isTaped_L24 n k a0b i1b i2b 0 (i4b + 1) z)))
set_option maxHeartbeats 4000000 in
set_option maxRecDepth 100000 in
theorem bRef_isTaped_24 {p : Program} {l : Launch} {e : Env} {s : State} {m : MethodId} {args : Array Value} {below : List Frame} {meth : Method} {c : Code} {D : va_G} {A : Nat → Prop} (C : g_C p s m meth c args cRef_isTaped 5 (some .boolean) "SecretRowsModel" gW D vwCl gNN gOO A) (n : Nat) {r : Int32} {z' : gS} : ∀ k : Nat, ∀ (a0b : Nat) (i1b : Int32) (i2b : Int32) (i3b : Int32) (i4b : Int32) (z : gS) (H : Heap) (locs : List Loc) (ls : Array Slot), fRef_isTaped_L24 n k a0b i1b i2b i3b i4b z = some (r, z') → g_W D vwCl A z s H → va_S A s.heap H locs → lv_has ls 5 [(0, .ref a0b), (1, .int i1b), (2, .int i2b), (3, .int i3b), (4, .int i4b)] → W p l e (headSpec wsRef_isTaped ({ frames := 0, cells := 0, slots := 0, locals := 0 })).room s m args below meth c H locs 0 0 (MQ below (g_Qi D vwCl A r z') args s 0 0 A) (F0 m 24 ls []) := by
  obtain ⟨hx, hb, hr, hml, hown, hts, hlocks, hK, hA⟩ := id C
  intro k
  induction k with
  | zero =>
    intro a0b i1b i2b i3b i4b z H locs ls hf
    have hf : (none : Option (Int32 × gS)) = some _ := hf
    cases hf
  | succ k ih =>
    intro a0b i1b i2b i3b i4b z H locs ls hf hW hS hl
    rw [fRef_isTaped_L24] at hf
    refine lv_iload hx hb dRef_isTaped_24 (lv_at hl 4 rfl) ?_
    refine lv_iload_n hx hb dRef_isTaped_26 rfl (lv_at hl 2 rfl) ?_
    refine lv_icmp_ge (tgt := 68) hx hb dRef_isTaped_27 (by decide) (fun c_6 => ?_) (fun c_6 => ?_)
    · replace hf := g_it c_6 hf
      refine lv_iload_n hx hb dRef_isTaped_68 rfl (lv_at hl 3 rfl) ?_
      have c_7 := g_itc hf
      replace hf := g_it c_7 hf
      cases hf
      exact g_retz hx hb hr (g_bool c_7) hlocks hW hS (Nat.le_of_ble_eq_true rfl) (Nat.le_of_ble_eq_true rfl) dRef_isTaped_69
    · replace hf := g_if c_6 hf
      refine lv_iload_n hx hb dRef_isTaped_30 rfl (lv_at hl 3 rfl) ?_
      refine lv_if_eq (tgt := 68) hx hb dRef_isTaped_31 (by decide) (fun c_8 => ?_) (fun c_8 => ?_)
      · replace hf := g_it c_8 hf
        refine lv_iload_n hx hb dRef_isTaped_68 rfl (lv_at hl 3 rfl) ?_
        have c_9 := g_itc hf
        replace hf := g_it c_9 hf
        cases hf
        exact g_retz hx hb hr (g_bool c_9) hlocks hW hS (Nat.le_of_ble_eq_true rfl) (Nat.le_of_ble_eq_true rfl) dRef_isTaped_69
      · replace hf := g_if c_8 hf
        refine lv_aload_n hx hb dRef_isTaped_34 rfl (lv_at hl 0 rfl) ?_
        replace hf := g_bd hf
        obtain ⟨r_10, hr_10, hf⟩ := hf
        refine g_getR hx hb hts in_Ref hown hK hW (ci := 9) (C := "SecretRowsModel") (T := T_Ref) (N := 36) rfl (k := 9) (by decide) (hts _ kw_529) (fun _ h9 => h9) hr_10 dRef_isTaped_35 ?_
        refine lv_bipush (v := 12) hx hb dRef_isTaped_38 (by decide) ?_
        refine lv_iload_n hx hb dRef_isTaped_40 rfl (lv_at hl 1 rfl) ?_
        refine lv_imul hx hb dRef_isTaped_41 ?_
        refine lv_iload hx hb dRef_isTaped_42 (lv_at hl 4 rfl) ?_
        refine lv_iadd hx hb dRef_isTaped_44 ?_
        replace hf := g_bd hf
        obtain ⟨a_11, ea_11, hf⟩ := hf
        subst ea_11
        refine W.eq (g2 := F0 m 45 _ [.int ((12 * i1b) + i4b), .ref a_11]) rfl ?_
        replace hf := g_bd hf
        obtain ⟨v_12, hv_12, hf⟩ := hf
        refine g_ald_i hx hb hK hW hv_12 dRef_isTaped_45 ?_
        refine lv_aload_n hx hb dRef_isTaped_46 rfl (lv_at hl 0 rfl) ?_
        replace hf := g_bd hf
        obtain ⟨r_13, hr_13, hf⟩ := hf
        refine g_getR hx hb hts in_Ref hown hK hW (ci := 9) (C := "SecretRowsModel") (T := T_Ref) (N := 36) rfl (k := 17) (by decide) (hts _ kw_537) (fun _ h9 => h9) hr_13 dRef_isTaped_47 ?_
        refine lv_iload hx hb dRef_isTaped_50 (lv_at hl 4 rfl) ?_
        replace hf := g_bd hf
        obtain ⟨a_14, ea_14, hf⟩ := hf
        subst ea_14
        refine W.eq (g2 := F0 m 52 _ [.int i4b, .ref a_14, .int v_12]) rfl ?_
        replace hf := g_bd hf
        obtain ⟨v_15, hv_15, hf⟩ := hf
        refine g_ald_i hx hb hK hW hv_15 dRef_isTaped_52 ?_
        refine lv_icmp_ne (tgt := 60) hx hb dRef_isTaped_53 (by decide) (fun c_16 => ?_) (fun c_16 => ?_)
        · replace hf := g_if c_16 hf
          refine lv_iconst (v := 0) hx hb dRef_isTaped_60 (by decide) ?_
          refine lv_istore_n (lv' := [(3, .int 0), (0, .ref a0b), (1, .int i1b), (2, .int i2b), (4, .int i4b)]) hx hb dRef_isTaped_61 rfl hl (by decide) rfl (fun _ hl1 => ?_)
          clear hl
          have hl := hl1
          clear hl1
          refine lv_iinc (v := (i4b + 1)) (lv' := [(4, .int (i4b + 1)), (3, .int 0), (0, .ref a0b), (1, .int i1b), (2, .int i2b)]) hx hb dRef_isTaped_62 hl (k := 4) rfl rfl (by decide) rfl (fun _ hl1 => ?_)
          clear hl
          have hl := hl1
          clear hl1
          refine lv_goto (tgt := 24) hx hb dRef_isTaped_65 (by decide) ?_
          exact ih a0b i1b i2b 0 (i4b + 1) _ _ _ _ hf hW hS (lv_sub hl [2, 3, 4, 1, 0] rfl)
        · replace hf := g_it c_16 hf
          refine lv_iconst (v := 1) hx hb dRef_isTaped_56 (by decide) ?_
          refine lv_goto (tgt := 61) hx hb dRef_isTaped_57 (by decide) ?_
          refine lv_istore_n (lv' := [(3, .int 1), (0, .ref a0b), (1, .int i1b), (2, .int i2b), (4, .int i4b)]) hx hb dRef_isTaped_61 rfl hl (by decide) rfl (fun _ hl1 => ?_)
          clear hl
          have hl := hl1
          clear hl1
          refine lv_iinc (v := (i4b + 1)) (lv' := [(4, .int (i4b + 1)), (3, .int 1), (0, .ref a0b), (1, .int i1b), (2, .int i2b)]) hx hb dRef_isTaped_62 hl (k := 4) rfl rfl (by decide) rfl (fun _ hl1 => ?_)
          clear hl
          have hl := hl1
          clear hl1
          refine lv_goto (tgt := 24) hx hb dRef_isTaped_65 (by decide) ?_
          exact ih a0b i1b i2b 1 (i4b + 1) _ _ _ _ hf hW hS (lv_sub hl [2, 3, 4, 1, 0] rfl)
def fRef_isTaped (n : Nat) (a0 : Nat) (i1 : Int32) (i2 : Int32) (z : gS) : Option (Int32 × gS) :=
    if i1 = (-1) then (
    fRef_isTaped_L24 n n a0 i1 i2 0 0 z)
    else (
    (g_fR z a0 9 8).bind fun r_2 =>
    r_2.bind fun a_3 =>
    (g_ldI z .int a_3 i1).bind fun v_4 =>
    if v_4 = i2 then (
    fRef_isTaped_L24 n n a0 i1 i2 1 0 z)
    else (
    fRef_isTaped_L24 n n a0 i1 i2 0 0 z))
set_option maxHeartbeats 4000000 in
set_option maxRecDepth 100000 in
theorem mRef_isTaped (l : Launch) (D : va_G) (A : Nat → Prop) (n : Nat) (z z' : gS) (a0 : Nat) (i1 : Int32) (i2 : Int32) (r : Int32) (hf : fRef_isTaped n a0 i1 i2 z = some (r, z')) : Met l yRef_isTaped wsRef_isTaped ({ frames := 0, cells := 0, slots := 0, locals := 0 }) (g_P D vwCl gNN gOO A z [.ref a0, .int i1, .int i2]) (g_Qi D vwCl A r z') 0 0 A := by
  refine Met.ofW (cc := cRef_isTaped) (maxL := 5) (ret := (some .boolean)) (by decide) rfl ?_
  intro p e s m args below meth c s₁ B hml hv
  obtain ⟨rfl, hW, hK, hA0⟩ := hv
  have C : g_C p s m meth c _ cRef_isTaped 5 (some .boolean) "SecretRowsModel" gW D vwCl gNN gOO A := ⟨B.exec, B.bytes, B.returns, hml, findClass_of_methodNamed B.named, fun w hw => atoms_spec (ws := wsRef_isTaped) B.pre w (List.mem_cons_of_mem _ hw), B.notSynchronized, hK, fun q hq => hA0 q (by rw [← hW.1]; exact hq)⟩
  have hS : va_S A s.heap s.heap [] := va_S.rf
  have hl := lv_entry ([.ref a0, .int i1, .int i2]) (n := 5) (Nat.le_of_ble_eq_true rfl)
  rw [lg_entry_eq]
  generalize (lg_sl ([.ref a0, .int i1, .int i2]) ++ List.replicate (5 - (lg_sl ([.ref a0, .int i1, .int i2])).length) Slot.unset).toArray = ls at hl ⊢
  have hl : lv_has ls 5 [(0, .ref a0), (1, .int i1), (2, .int i2)] := hl
  obtain ⟨hx, hb, hr, hml, hown, hts, hlocks, hK, hA⟩ := id C
  unfold fRef_isTaped at hf
  refine lv_iload_n hx hb dRef_isTaped_0 rfl (lv_at hl 1 rfl) ?_
  refine lv_iconst (v := (-1)) hx hb dRef_isTaped_1 (by decide) ?_
  refine lv_icmp_eq (tgt := 19) hx hb dRef_isTaped_2 (by decide) (fun c_1 => ?_) (fun c_1 => ?_)
  · replace hf := g_it c_1 hf
    refine lv_iconst (v := 0) hx hb dRef_isTaped_19 (by decide) ?_
    refine lv_istore_n (lv' := [(3, .int 0), (0, .ref a0), (1, .int i1), (2, .int i2)]) hx hb dRef_isTaped_20 rfl hl (by decide) rfl (fun _ hl1 => ?_)
    clear hl
    have hl := hl1
    clear hl1
    refine lv_iconst (v := 0) hx hb dRef_isTaped_21 (by decide) ?_
    refine lv_istore (lv' := [(4, .int 0), (3, .int 0), (0, .ref a0), (1, .int i1), (2, .int i2)]) hx hb dRef_isTaped_22 hl (by decide) rfl (fun _ hl1 => ?_)
    clear hl
    have hl := hl1
    clear hl1
    exact bRef_isTaped_24 C n n a0 i1 i2 0 0 _ _ _ _ hf hW hS (lv_sub hl [2, 3, 4, 1, 0] rfl)
  · replace hf := g_if c_1 hf
    refine lv_aload_n hx hb dRef_isTaped_5 rfl (lv_at hl 0 rfl) ?_
    replace hf := g_bd hf
    obtain ⟨r_2, hr_2, hf⟩ := hf
    refine g_getR hx hb hts in_Ref hown hK hW (ci := 9) (C := "SecretRowsModel") (T := T_Ref) (N := 36) rfl (k := 8) (by decide) (hts _ kw_528) (fun _ h9 => h9) hr_2 dRef_isTaped_6 ?_
    refine lv_iload_n hx hb dRef_isTaped_9 rfl (lv_at hl 1 rfl) ?_
    replace hf := g_bd hf
    obtain ⟨a_3, ea_3, hf⟩ := hf
    subst ea_3
    refine W.eq (g2 := F0 m 10 _ [.int i1, .ref a_3]) rfl ?_
    replace hf := g_bd hf
    obtain ⟨v_4, hv_4, hf⟩ := hf
    refine g_ald_i hx hb hK hW hv_4 dRef_isTaped_10 ?_
    refine lv_iload_n hx hb dRef_isTaped_11 rfl (lv_at hl 2 rfl) ?_
    refine lv_icmp_ne (tgt := 19) hx hb dRef_isTaped_12 (by decide) (fun c_5 => ?_) (fun c_5 => ?_)
    · replace hf := g_if c_5 hf
      refine lv_iconst (v := 0) hx hb dRef_isTaped_19 (by decide) ?_
      refine lv_istore_n (lv' := [(3, .int 0), (0, .ref a0), (1, .int i1), (2, .int i2)]) hx hb dRef_isTaped_20 rfl hl (by decide) rfl (fun _ hl1 => ?_)
      clear hl
      have hl := hl1
      clear hl1
      refine lv_iconst (v := 0) hx hb dRef_isTaped_21 (by decide) ?_
      refine lv_istore (lv' := [(4, .int 0), (3, .int 0), (0, .ref a0), (1, .int i1), (2, .int i2)]) hx hb dRef_isTaped_22 hl (by decide) rfl (fun _ hl1 => ?_)
      clear hl
      have hl := hl1
      clear hl1
      exact bRef_isTaped_24 C n n a0 i1 i2 0 0 _ _ _ _ hf hW hS (lv_sub hl [2, 3, 4, 1, 0] rfl)
    · replace hf := g_it c_5 hf
      refine lv_iconst (v := 1) hx hb dRef_isTaped_15 (by decide) ?_
      refine lv_goto (tgt := 20) hx hb dRef_isTaped_16 (by decide) ?_
      refine lv_istore_n (lv' := [(3, .int 1), (0, .ref a0), (1, .int i1), (2, .int i2)]) hx hb dRef_isTaped_20 rfl hl (by decide) rfl (fun _ hl1 => ?_)
      clear hl
      have hl := hl1
      clear hl1
      refine lv_iconst (v := 0) hx hb dRef_isTaped_21 (by decide) ?_
      refine lv_istore (lv' := [(4, .int 0), (3, .int 1), (0, .ref a0), (1, .int i1), (2, .int i2)]) hx hb dRef_isTaped_22 hl (by decide) rfl (fun _ hl1 => ?_)
      clear hl
      have hl := hl1
      clear hl1
      exact bRef_isTaped_24 C n n a0 i1 i2 1 0 _ _ _ _ hf hW hS (lv_sub hl [2, 3, 4, 1, 0] rfl)
