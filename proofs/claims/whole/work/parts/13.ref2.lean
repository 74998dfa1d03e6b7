theorem dRef_step_0 : decode cRef_step 0 = .ok (.aload_n 0, 1) := by decide +kernel
theorem dRef_step_1 : decode cRef_step 1 = .ok (.iconst 0, 1) := by decide +kernel
theorem dRef_step_2 : decode cRef_step 2 = .ok (.putfield 90, 3) := by decide +kernel
theorem dRef_step_5 : decode cRef_step 5 = .ok (.aload_n 0, 1) := by decide +kernel
theorem dRef_step_6 : decode cRef_step 6 = .ok (.getfield 96, 3) := by decide +kernel
theorem dRef_step_9 : decode cRef_step 9 = .ok (.bipush 12, 2) := by decide +kernel
theorem dRef_step_11 : decode cRef_step 11 = .ok (.if_icmp .eq 33, 3) := by decide +kernel
theorem dRef_step_14 : decode cRef_step 14 = .ok (.iload_n 1, 1) := by decide +kernel
theorem dRef_step_15 : decode cRef_step 15 = .ok (.ifCond .lt 29, 3) := by decide +kernel
theorem dRef_step_18 : decode cRef_step 18 = .ok (.iload_n 1, 1) := by decide +kernel
theorem dRef_step_19 : decode cRef_step 19 = .ok (.bipush 7, 2) := by decide +kernel
theorem dRef_step_21 : decode cRef_step 21 = .ok (.if_icmp .gt 23, 3) := by decide +kernel
theorem dRef_step_24 : decode cRef_step 24 = .ok (.iload_n 2, 1) := by decide +kernel
theorem dRef_step_25 : decode cRef_step 25 = .ok (.ifCond .lt 19, 3) := by decide +kernel
theorem dRef_step_28 : decode cRef_step 28 = .ok (.iload_n 2, 1) := by decide +kernel
theorem dRef_step_29 : decode cRef_step 29 = .ok (.bipush 7, 2) := by decide +kernel
theorem dRef_step_31 : decode cRef_step 31 = .ok (.if_icmp .gt 13, 3) := by decide +kernel
theorem dRef_step_34 : decode cRef_step 34 = .ok (.iload_n 3, 1) := by decide +kernel
theorem dRef_step_35 : decode cRef_step 35 = .ok (.ifCond .lt 9, 3) := by decide +kernel
theorem dRef_step_38 : decode cRef_step 38 = .ok (.iload_n 3, 1) := by decide +kernel
theorem dRef_step_39 : decode cRef_step 39 = .ok (.bipush 7, 2) := by decide +kernel
theorem dRef_step_41 : decode cRef_step 41 = .ok (.if_icmp .le 5, 3) := by decide +kernel
theorem dRef_step_44 : decode cRef_step 44 = .ok (.iconst (-1), 1) := by decide +kernel
theorem dRef_step_45 : decode cRef_step 45 = .ok (.ireturn, 1) := by decide +kernel
theorem dRef_step_46 : decode cRef_step 46 = .ok (.iconst 0, 1) := by decide +kernel
theorem dRef_step_47 : decode cRef_step 47 = .ok (.istore 5, 2) := by decide +kernel
theorem dRef_step_49 : decode cRef_step 49 = .ok (.iload 5, 2) := by decide +kernel
theorem dRef_step_51 : decode cRef_step 51 = .ok (.bipush 10, 2) := by decide +kernel
theorem dRef_step_53 : decode cRef_step 53 = .ok (.if_icmp .ge 106, 3) := by decide +kernel
theorem dRef_step_56 : decode cRef_step 56 = .ok (.iload 5, 2) := by decide +kernel
theorem dRef_step_58 : decode cRef_step 58 = .ok (.aload_n 0, 1) := by decide +kernel
theorem dRef_step_59 : decode cRef_step 59 = .ok (.getfield 93, 3) := by decide +kernel
theorem dRef_step_62 : decode cRef_step 62 = .ok (.if_icmp .ge 57, 3) := by decide +kernel
theorem dRef_step_65 : decode cRef_step 65 = .ok (.iload 4, 2) := by decide +kernel
theorem dRef_step_67 : decode cRef_step 67 = .ok (.ifCond .ne 52, 3) := by decide +kernel
theorem dRef_step_70 : decode cRef_step 70 = .ok (.aload_n 0, 1) := by decide +kernel
theorem dRef_step_71 : decode cRef_step 71 = .ok (.getfield 37, 3) := by decide +kernel
theorem dRef_step_74 : decode cRef_step 74 = .ok (.iload 5, 2) := by decide +kernel
theorem dRef_step_76 : decode cRef_step 76 = .ok (.baload, 1) := by decide +kernel
theorem dRef_step_77 : decode cRef_step 77 = .ok (.ifCond .ne 42, 3) := by decide +kernel
theorem dRef_step_80 : decode cRef_step 80 = .ok (.aload_n 0, 1) := by decide +kernel
theorem dRef_step_81 : decode cRef_step 81 = .ok (.getfield 19, 3) := by decide +kernel
theorem dRef_step_84 : decode cRef_step 84 = .ok (.iload 5, 2) := by decide +kernel
theorem dRef_step_86 : decode cRef_step 86 = .ok (.iaload, 1) := by decide +kernel
theorem dRef_step_87 : decode cRef_step 87 = .ok (.iload_n 1, 1) := by decide +kernel
theorem dRef_step_88 : decode cRef_step 88 = .ok (.ishr, 1) := by decide +kernel
theorem dRef_step_89 : decode cRef_step 89 = .ok (.aload_n 0, 1) := by decide +kernel
theorem dRef_step_90 : decode cRef_step 90 = .ok (.getfield 22, 3) := by decide +kernel
theorem dRef_step_93 : decode cRef_step 93 = .ok (.iload 5, 2) := by decide +kernel
theorem dRef_step_95 : decode cRef_step 95 = .ok (.iaload, 1) := by decide +kernel
theorem dRef_step_96 : decode cRef_step 96 = .ok (.iload_n 2, 1) := by decide +kernel
theorem dRef_step_97 : decode cRef_step 97 = .ok (.ishr, 1) := by decide +kernel
theorem dRef_step_98 : decode cRef_step 98 = .ok (.iand, 1) := by decide +kernel
theorem dRef_step_99 : decode cRef_step 99 = .ok (.aload_n 0, 1) := by decide +kernel
theorem dRef_step_100 : decode cRef_step 100 = .ok (.getfield 25, 3) := by decide +kernel
theorem dRef_step_103 : decode cRef_step 103 = .ok (.iload 5, 2) := by decide +kernel
theorem dRef_step_105 : decode cRef_step 105 = .ok (.iaload, 1) := by decide +kernel
theorem dRef_step_106 : decode cRef_step 106 = .ok (.iload_n 3, 1) := by decide +kernel
theorem dRef_step_107 : decode cRef_step 107 = .ok (.ishr, 1) := by decide +kernel
theorem dRef_step_108 : decode cRef_step 108 = .ok (.iand, 1) := by decide +kernel
theorem dRef_step_109 : decode cRef_step 109 = .ok (.iconst 1, 1) := by decide +kernel
theorem dRef_step_110 : decode cRef_step 110 = .ok (.iand, 1) := by decide +kernel
theorem dRef_step_111 : decode cRef_step 111 = .ok (.iconst 1, 1) := by decide +kernel
theorem dRef_step_112 : decode cRef_step 112 = .ok (.if_icmp .ne 7, 3) := by decide +kernel
theorem dRef_step_115 : decode cRef_step 115 = .ok (.iconst 1, 1) := by decide +kernel
theorem dRef_step_116 : decode cRef_step 116 = .ok (.goto 4, 3) := by decide +kernel
theorem dRef_step_119 : decode cRef_step 119 = .ok (.iconst 0, 1) := by decide +kernel
theorem dRef_step_120 : decode cRef_step 120 = .ok (.istore 6, 2) := by decide +kernel
theorem dRef_step_122 : decode cRef_step 122 = .ok (.aload_n 0, 1) := by decide +kernel
theorem dRef_step_123 : decode cRef_step 123 = .ok (.getfield 44, 3) := by decide +kernel
theorem dRef_step_126 : decode cRef_step 126 = .ok (.bipush 10, 2) := by decide +kernel
theorem dRef_step_128 : decode cRef_step 128 = .ok (.aload_n 0, 1) := by decide +kernel
theorem dRef_step_129 : decode cRef_step 129 = .ok (.getfield 96, 3) := by decide +kernel
theorem dRef_step_132 : decode cRef_step 132 = .ok (.imul, 1) := by decide +kernel
theorem dRef_step_133 : decode cRef_step 133 = .ok (.iload 5, 2) := by decide +kernel
theorem dRef_step_135 : decode cRef_step 135 = .ok (.iadd, 1) := by decide +kernel
theorem dRef_step_136 : decode cRef_step 136 = .ok (.iload 6, 2) := by decide +kernel
theorem dRef_step_138 : decode cRef_step 138 = .ok (.ifCond .eq 13, 3) := by decide +kernel
theorem dRef_step_141 : decode cRef_step 141 = .ok (.aload_n 0, 1) := by decide +kernel
theorem dRef_step_142 : decode cRef_step 142 = .ok (.getfield 28, 3) := by decide +kernel
theorem dRef_step_145 : decode cRef_step 145 = .ok (.iload 5, 2) := by decide +kernel
theorem dRef_step_147 : decode cRef_step 147 = .ok (.iaload, 1) := by decide +kernel
theorem dRef_step_148 : decode cRef_step 148 = .ok (.goto 4, 3) := by decide +kernel
theorem dRef_step_151 : decode cRef_step 151 = .ok (.iconst (-1), 1) := by decide +kernel
theorem dRef_step_152 : decode cRef_step 152 = .ok (.iastore, 1) := by decide +kernel
theorem dRef_step_153 : decode cRef_step 153 = .ok (.iinc 5 1, 3) := by decide +kernel
theorem dRef_step_156 : decode cRef_step 156 = .ok (.goto (-107), 3) := by decide +kernel
theorem dRef_step_159 : decode cRef_step 159 = .ok (.aload_n 0, 1) := by decide +kernel
theorem dRef_step_160 : decode cRef_step 160 = .ok (.dup, 1) := by decide +kernel
theorem dRef_step_161 : decode cRef_step 161 = .ok (.getfield 96, 3) := by decide +kernel
theorem dRef_step_164 : decode cRef_step 164 = .ok (.iconst 1, 1) := by decide +kernel
theorem dRef_step_165 : decode cRef_step 165 = .ok (.iadd, 1) := by decide +kernel
theorem dRef_step_166 : decode cRef_step 166 = .ok (.putfield 96, 3) := by decide +kernel
theorem dRef_step_169 : decode cRef_step 169 = .ok (.aload_n 0, 1) := by decide +kernel
theorem dRef_step_170 : decode cRef_step 170 = .ok (.getfield 96, 3) := by decide +kernel
theorem dRef_step_173 : decode cRef_step 173 = .ok (.iconst 1, 1) := by decide +kernel
theorem dRef_step_174 : decode cRef_step 174 = .ok (.isub, 1) := by decide +kernel
theorem dRef_step_175 : decode cRef_step 175 = .ok (.ireturn, 1) := by decide +kernel
theorem dRef_keptOf_0 : decode cRef_keptOf 0 = .ok (.aload_n 0, 1) := by decide +kernel
theorem dRef_keptOf_1 : decode cRef_keptOf 1 = .ok (.iload_n 1, 1) := by decide +kernel
theorem dRef_keptOf_2 : decode cRef_keptOf 2 = .ok (.invokevirtual 118, 3) := by decide +kernel
theorem dRef_keptOf_5 : decode cRef_keptOf 5 = .ok (.ifCond .eq 25, 3) := by decide +kernel
theorem dRef_keptOf_8 : decode cRef_keptOf 8 = .ok (.aload_n 0, 1) := by decide +kernel
theorem dRef_keptOf_9 : decode cRef_keptOf 9 = .ok (.iload_n 2, 1) := by decide +kernel
theorem dRef_keptOf_10 : decode cRef_keptOf 10 = .ok (.invokevirtual 102, 3) := by decide +kernel
theorem dRef_keptOf_13 : decode cRef_keptOf 13 = .ok (.ifCond .eq 17, 3) := by decide +kernel
theorem dRef_keptOf_16 : decode cRef_keptOf 16 = .ok (.aload_n 0, 1) := by decide +kernel
theorem dRef_keptOf_17 : decode cRef_keptOf 17 = .ok (.getfield 44, 3) := by decide +kernel
theorem dRef_keptOf_20 : decode cRef_keptOf 20 = .ok (.bipush 10, 2) := by decide +kernel
theorem dRef_keptOf_22 : decode cRef_keptOf 22 = .ok (.iload_n 1, 1) := by decide +kernel
theorem dRef_keptOf_23 : decode cRef_keptOf 23 = .ok (.imul, 1) := by decide +kernel
theorem dRef_keptOf_24 : decode cRef_keptOf 24 = .ok (.iload_n 2, 1) := by decide +kernel
theorem dRef_keptOf_25 : decode cRef_keptOf 25 = .ok (.iadd, 1) := by decide +kernel
theorem dRef_keptOf_26 : decode cRef_keptOf 26 = .ok (.iaload, 1) := by decide +kernel
theorem dRef_keptOf_27 : decode cRef_keptOf 27 = .ok (.goto 4, 3) := by decide +kernel
theorem dRef_keptOf_30 : decode cRef_keptOf 30 = .ok (.iconst (-1), 1) := by decide +kernel
theorem dRef_keptOf_31 : decode cRef_keptOf 31 = .ok (.ireturn, 1) := by decide +kernel
theorem dRef_sees_0 : decode cRef_sees 0 = .ok (.aload_n 0, 1) := by decide +kernel
theorem dRef_sees_1 : decode cRef_sees 1 = .ok (.iconst 0, 1) := by decide +kernel
theorem dRef_sees_2 : decode cRef_sees 2 = .ok (.putfield 90, 3) := by decide +kernel
theorem dRef_sees_5 : decode cRef_sees 5 = .ok (.iload_n 2, 1) := by decide +kernel
theorem dRef_sees_6 : decode cRef_sees 6 = .ok (.istore_n 3, 1) := by decide +kernel
theorem dRef_sees_7 : decode cRef_sees 7 = .ok (.iconst 0, 1) := by decide +kernel
theorem dRef_sees_8 : decode cRef_sees 8 = .ok (.istore 4, 2) := by decide +kernel
theorem dRef_sees_10 : decode cRef_sees 10 = .ok (.iload 4, 2) := by decide +kernel
theorem dRef_sees_12 : decode cRef_sees 12 = .ok (.aload_n 0, 1) := by decide +kernel
theorem dRef_sees_13 : decode cRef_sees 13 = .ok (.getfield 93, 3) := by decide +kernel
theorem dRef_sees_16 : decode cRef_sees 16 = .ok (.if_icmp .ge 37, 3) := by decide +kernel
theorem dRef_sees_19 : decode cRef_sees 19 = .ok (.iload_n 3, 1) := by decide +kernel
theorem dRef_sees_20 : decode cRef_sees 20 = .ok (.ifCond .lt 33, 3) := by decide +kernel
theorem dRef_sees_23 : decode cRef_sees 23 = .ok (.aload_n 0, 1) := by decide +kernel
theorem dRef_sees_24 : decode cRef_sees 24 = .ok (.iload_n 1, 1) := by decide +kernel
theorem dRef_sees_25 : decode cRef_sees 25 = .ok (.iload 4, 2) := by decide +kernel
theorem dRef_sees_27 : decode cRef_sees 27 = .ok (.invokevirtual 121, 3) := by decide +kernel
theorem dRef_sees_30 : decode cRef_sees 30 = .ok (.iconst (-1), 1) := by decide +kernel
theorem dRef_sees_31 : decode cRef_sees 31 = .ok (.if_icmp .ne 6, 3) := by decide +kernel
theorem dRef_sees_34 : decode cRef_sees 34 = .ok (.goto 13, 3) := by decide +kernel
theorem dRef_sees_37 : decode cRef_sees 37 = .ok (.iload_n 3, 1) := by decide +kernel
theorem dRef_sees_38 : decode cRef_sees 38 = .ok (.ifCond .ne 6, 3) := by decide +kernel
theorem dRef_sees_41 : decode cRef_sees 41 = .ok (.iload 4, 2) := by decide +kernel
theorem dRef_sees_43 : decode cRef_sees 43 = .ok (.ireturn, 1) := by decide +kernel
theorem dRef_sees_44 : decode cRef_sees 44 = .ok (.iinc 3 (-1), 3) := by decide +kernel
theorem dRef_sees_47 : decode cRef_sees 47 = .ok (.iinc 4 1, 3) := by decide +kernel
theorem dRef_sees_50 : decode cRef_sees 50 = .ok (.goto (-40), 3) := by decide +kernel
theorem dRef_sees_53 : decode cRef_sees 53 = .ok (.iconst (-1), 1) := by decide +kernel
theorem dRef_sees_54 : decode cRef_sees 54 = .ok (.ireturn, 1) := by decide +kernel
theorem dRef_read_0 : decode cRef_read 0 = .ok (.aload_n 0, 1) := by decide +kernel
theorem dRef_read_1 : decode cRef_read 1 = .ok (.iconst 0, 1) := by decide +kernel
theorem dRef_read_2 : decode cRef_read 2 = .ok (.putfield 90, 3) := by decide +kernel
theorem dRef_read_5 : decode cRef_read 5 = .ok (.aload_n 0, 1) := by decide +kernel
theorem dRef_read_6 : decode cRef_read 6 = .ok (.iload_n 1, 1) := by decide +kernel
theorem dRef_read_7 : decode cRef_read 7 = .ok (.iload_n 2, 1) := by decide +kernel
theorem dRef_read_8 : decode cRef_read 8 = .ok (.invokevirtual 121, 3) := by decide +kernel
theorem dRef_read_11 : decode cRef_read 11 = .ok (.istore 4, 2) := by decide +kernel
theorem dRef_read_13 : decode cRef_read 13 = .ok (.iload 4, 2) := by decide +kernel
theorem dRef_read_15 : decode cRef_read 15 = .ok (.iconst (-1), 1) := by decide +kernel
theorem dRef_read_16 : decode cRef_read 16 = .ok (.if_icmp .ne 5, 3) := by decide +kernel
theorem dRef_read_19 : decode cRef_read 19 = .ok (.iconst (-1), 1) := by decide +kernel
theorem dRef_read_20 : decode cRef_read 20 = .ok (.ireturn, 1) := by decide +kernel
theorem dRef_read_21 : decode cRef_read 21 = .ok (.aload_n 0, 1) := by decide +kernel
theorem dRef_read_22 : decode cRef_read 22 = .ok (.getfield 125, 3) := by decide +kernel
theorem dRef_read_25 : decode cRef_read 25 = .ok (.sipush 200, 3) := by decide +kernel
theorem dRef_read_28 : decode cRef_read 28 = .ok (.if_icmp .ge 46, 3) := by decide +kernel
theorem dRef_read_31 : decode cRef_read 31 = .ok (.aload_n 0, 1) := by decide +kernel
theorem dRef_read_32 : decode cRef_read 32 = .ok (.getfield 68, 3) := by decide +kernel
theorem dRef_read_35 : decode cRef_read 35 = .ok (.aload_n 0, 1) := by decide +kernel
theorem dRef_read_36 : decode cRef_read 36 = .ok (.getfield 125, 3) := by decide +kernel
theorem dRef_read_39 : decode cRef_read 39 = .ok (.iload_n 1, 1) := by decide +kernel
theorem dRef_read_40 : decode cRef_read 40 = .ok (.iastore, 1) := by decide +kernel
theorem dRef_read_41 : decode cRef_read 41 = .ok (.aload_n 0, 1) := by decide +kernel
theorem dRef_read_42 : decode cRef_read 42 = .ok (.getfield 71, 3) := by decide +kernel
theorem dRef_read_45 : decode cRef_read 45 = .ok (.aload_n 0, 1) := by decide +kernel
theorem dRef_read_46 : decode cRef_read 46 = .ok (.getfield 125, 3) := by decide +kernel
theorem dRef_read_49 : decode cRef_read 49 = .ok (.iload_n 2, 1) := by decide +kernel
theorem dRef_read_50 : decode cRef_read 50 = .ok (.iastore, 1) := by decide +kernel
theorem dRef_read_51 : decode cRef_read 51 = .ok (.aload_n 0, 1) := by decide +kernel
theorem dRef_read_52 : decode cRef_read 52 = .ok (.getfield 74, 3) := by decide +kernel
theorem dRef_read_55 : decode cRef_read 55 = .ok (.aload_n 0, 1) := by decide +kernel
theorem dRef_read_56 : decode cRef_read 56 = .ok (.getfield 125, 3) := by decide +kernel
theorem dRef_read_59 : decode cRef_read 59 = .ok (.aload_n 0, 1) := by decide +kernel
theorem dRef_read_60 : decode cRef_read 60 = .ok (.getfield 114, 3) := by decide +kernel
theorem dRef_read_63 : decode cRef_read 63 = .ok (.iastore, 1) := by decide +kernel
theorem dRef_read_64 : decode cRef_read 64 = .ok (.aload_n 0, 1) := by decide +kernel
theorem dRef_read_65 : decode cRef_read 65 = .ok (.dup, 1) := by decide +kernel
theorem dRef_read_66 : decode cRef_read 66 = .ok (.getfield 125, 3) := by decide +kernel
theorem dRef_read_69 : decode cRef_read 69 = .ok (.iconst 1, 1) := by decide +kernel
theorem dRef_read_70 : decode cRef_read 70 = .ok (.iadd, 1) := by decide +kernel
theorem dRef_read_71 : decode cRef_read 71 = .ok (.putfield 125, 3) := by decide +kernel
theorem dRef_read_74 : decode cRef_read 74 = .ok (.iload_n 3, 1) := by decide +kernel
theorem dRef_read_75 : decode cRef_read 75 = .ok (.ifCond .lt 14, 3) := by decide +kernel
theorem dRef_read_78 : decode cRef_read 78 = .ok (.iload_n 3, 1) := by decide +kernel
theorem dRef_read_79 : decode cRef_read 79 = .ok (.aload_n 0, 1) := by decide +kernel
theorem dRef_read_80 : decode cRef_read 80 = .ok (.getfield 13, 3) := by decide +kernel
theorem dRef_read_83 : decode cRef_read 83 = .ok (.iload 4, 2) := by decide +kernel
theorem dRef_read_85 : decode cRef_read 85 = .ok (.iaload, 1) := by decide +kernel
theorem dRef_read_86 : decode cRef_read 86 = .ok (.if_icmp .lt 7, 3) := by decide +kernel
theorem dRef_read_89 : decode cRef_read 89 = .ok (.iconst (-1), 1) := by decide +kernel
theorem dRef_read_90 : decode cRef_read 90 = .ok (.goto 15, 3) := by decide +kernel
theorem dRef_read_93 : decode cRef_read 93 = .ok (.aload_n 0, 1) := by decide +kernel
theorem dRef_read_94 : decode cRef_read 94 = .ok (.getfield 16, 3) := by decide +kernel
theorem dRef_read_97 : decode cRef_read 97 = .ok (.bipush 12, 2) := by decide +kernel
theorem dRef_read_99 : decode cRef_read 99 = .ok (.iload 4, 2) := by decide +kernel
theorem dRef_read_101 : decode cRef_read 101 = .ok (.imul, 1) := by decide +kernel
theorem dRef_read_102 : decode cRef_read 102 = .ok (.iload_n 3, 1) := by decide +kernel
theorem dRef_read_103 : decode cRef_read 103 = .ok (.iadd, 1) := by decide +kernel
theorem dRef_read_104 : decode cRef_read 104 = .ok (.iaload, 1) := by decide +kernel
theorem dRef_read_105 : decode cRef_read 105 = .ok (.ireturn, 1) := by decide +kernel
theorem dRef_audit_0 : decode cRef_audit 0 = .ok (.aload_n 0, 1) := by decide +kernel
theorem dRef_audit_1 : decode cRef_audit 1 = .ok (.iconst 0, 1) := by decide +kernel
theorem dRef_audit_2 : decode cRef_audit 2 = .ok (.putfield 90, 3) := by decide +kernel
theorem dRef_audit_5 : decode cRef_audit 5 = .ok (.iload_n 1, 1) := by decide +kernel
theorem dRef_audit_6 : decode cRef_audit 6 = .ok (.ifCond .lt 11, 3) := by decide +kernel
theorem dRef_audit_9 : decode cRef_audit 9 = .ok (.iload_n 1, 1) := by decide +kernel
theorem dRef_audit_10 : decode cRef_audit 10 = .ok (.aload_n 0, 1) := by decide +kernel
theorem dRef_audit_11 : decode cRef_audit 11 = .ok (.getfield 125, 3) := by decide +kernel
theorem dRef_audit_14 : decode cRef_audit 14 = .ok (.if_icmp .lt 5, 3) := by decide +kernel
theorem dRef_audit_17 : decode cRef_audit 17 = .ok (.iconst (-1), 1) := by decide +kernel
theorem dRef_audit_18 : decode cRef_audit 18 = .ok (.ireturn, 1) := by decide +kernel
theorem dRef_audit_19 : decode cRef_audit 19 = .ok (.iload_n 2, 1) := by decide +kernel
theorem dRef_audit_20 : decode cRef_audit 20 = .ok (.ifCond .ne 12, 3) := by decide +kernel
theorem dRef_audit_23 : decode cRef_audit 23 = .ok (.aload_n 0, 1) := by decide +kernel
theorem dRef_audit_24 : decode cRef_audit 24 = .ok (.getfield 68, 3) := by decide +kernel
theorem dRef_audit_27 : decode cRef_audit 27 = .ok (.iload_n 1, 1) := by decide +kernel
theorem dRef_audit_28 : decode cRef_audit 28 = .ok (.iaload, 1) := by decide +kernel
theorem dRef_audit_29 : decode cRef_audit 29 = .ok (.goto 32, 3) := by decide +kernel
theorem dRef_audit_32 : decode cRef_audit 32 = .ok (.iload_n 2, 1) := by decide +kernel
theorem dRef_audit_33 : decode cRef_audit 33 = .ok (.iconst 1, 1) := by decide +kernel
theorem dRef_audit_34 : decode cRef_audit 34 = .ok (.if_icmp .ne 12, 3) := by decide +kernel
theorem dRef_audit_37 : decode cRef_audit 37 = .ok (.aload_n 0, 1) := by decide +kernel
theorem dRef_audit_38 : decode cRef_audit 38 = .ok (.getfield 71, 3) := by decide +kernel
theorem dRef_audit_41 : decode cRef_audit 41 = .ok (.iload_n 1, 1) := by decide +kernel
theorem dRef_audit_42 : decode cRef_audit 42 = .ok (.iaload, 1) := by decide +kernel
theorem dRef_audit_43 : decode cRef_audit 43 = .ok (.goto 18, 3) := by decide +kernel
theorem dRef_audit_46 : decode cRef_audit 46 = .ok (.iload_n 2, 1) := by decide +kernel
theorem dRef_audit_47 : decode cRef_audit 47 = .ok (.iconst 2, 1) := by decide +kernel
theorem dRef_audit_48 : decode cRef_audit 48 = .ok (.if_icmp .ne 12, 3) := by decide +kernel
theorem dRef_audit_51 : decode cRef_audit 51 = .ok (.aload_n 0, 1) := by decide +kernel
theorem dRef_audit_52 : decode cRef_audit 52 = .ok (.getfield 74, 3) := by decide +kernel
theorem dRef_audit_55 : decode cRef_audit 55 = .ok (.iload_n 1, 1) := by decide +kernel
theorem dRef_audit_56 : decode cRef_audit 56 = .ok (.iaload, 1) := by decide +kernel
theorem dRef_audit_57 : decode cRef_audit 57 = .ok (.goto 4, 3) := by decide +kernel
theorem dRef_audit_60 : decode cRef_audit 60 = .ok (.iconst (-1), 1) := by decide +kernel
theorem dRef_audit_61 : decode cRef_audit 61 = .ok (.ireturn, 1) := by decide +kernel
def fRef_step_J120 (n : Nat) (k49 : Nat → Int32 → Int32 → Int32 → Int32 → Int32 → gS → Option (Int32 × gS)) (a0b : Nat) (i1b : Int32) (i2b : Int32) (i3b : Int32) (i4b : Int32) (i5b : Int32) (is0 : Int32) (z : gS) : Option (Int32 × gS) :=
    (g_fR z a0b 9 19).bind fun r_31 =>
    (g_fI z a0b 9 4).bind fun v_32 =>
    if is0 = 0 then (
    r_31.bind fun a_34 =>
    (g_stI z .int a_34 ((10 * v_32) + i5b) (-1)).bind fun z_35 =>
    k49 a0b i1b i2b i3b i4b (i5b + 1) z_35)
    else (
    (g_fR z a0b 9 13).bind fun r_36 =>
    r_36.bind fun a_37 =>
    (g_ldI z .int a_37 i5b).bind fun v_38 =>
    r_31.bind fun a_39 =>
    (g_stI z .int a_39 ((10 * v_32) + i5b) v_38).bind fun z_40 =>
    k49 a0b i1b i2b i3b i4b (i5b + 1) z_40)
set_option maxHeartbeats 4000000 in
set_option maxRecDepth 100000 in
theorem bRef_step_120 {p : Program} {l : Launch} {e : Env} {s : State} {m : MethodId} {args : Array Value} {below : List Frame} {meth : Method} {c : Code} {D : va_G} {A : Nat → Prop} (C : g_C p s m meth c args cRef_step 7 (some .int) "SecretRowsModel" gW D vwCl gNN gOO A) (n : Nat) {r : Int32} {z' : gS}
    {k49 : Nat → Int32 → Int32 → Int32 → Int32 → Int32 → gS → Option (Int32 × gS)} (hk49 : ∀ (a0b : Nat) (i1b : Int32) (i2b : Int32) (i3b : Int32) (i4b : Int32) (i5b : Int32) (z : gS) (H : Heap) (locs : List Loc) (ls : Array Slot), k49 a0b i1b i2b i3b i4b i5b z = some (r, z') → g_W D vwCl A z s H → va_S A s.heap H locs → lv_has ls 7 [(0, .ref a0b), (1, .int i1b), (2, .int i2b), (3, .int i3b), (4, .int i4b), (5, .int i5b)] → W p l e (headSpec wsRef_step ({ frames := 0, cells := 0, slots := 0, locals := 0 })).room s m args below meth c H locs 0 0 (MQ below (g_Qi D vwCl A r z') args s 0 0 A) (F0 m 49 ls [])) : ∀ (a0b : Nat) (i1b : Int32) (i2b : Int32) (i3b : Int32) (i4b : Int32) (i5b : Int32) (is0 : Int32) (z : gS) (H : Heap) (locs : List Loc) (ls : Array Slot), fRef_step_J120 n k49 a0b i1b i2b i3b i4b i5b is0 z = some (r, z') → g_W D vwCl A z s H → va_S A s.heap H locs → lv_has ls 7 [(0, .ref a0b), (1, .int i1b), (2, .int i2b), (3, .int i3b), (4, .int i4b), (5, .int i5b)] → W p l e (headSpec wsRef_step ({ frames := 0, cells := 0, slots := 0, locals := 0 })).room s m args below meth c H locs 0 0 (MQ below (g_Qi D vwCl A r z') args s 0 0 A) (F0 m 120 ls [.int is0]) := by
  obtain ⟨hx, hb, hr, hml, hown, hts, hlocks, hK, hA⟩ := id C
  intro a0b i1b i2b i3b i4b i5b is0 z H locs ls hf hW hS hl
  unfold fRef_step_J120 at hf
  refine lv_istore (lv' := [(6, .int is0), (0, .ref a0b), (1, .int i1b), (2, .int i2b), (3, .int i3b), (4, .int i4b), (5, .int i5b)]) hx hb dRef_step_120 hl (by decide) rfl (fun _ hl1 => ?_)
  clear hl
  have hl := hl1
  clear hl1
  refine lv_aload_n hx hb dRef_step_122 rfl (lv_at hl 1 rfl) ?_
  replace hf := g_bd hf
  obtain ⟨r_31, hr_31, hf⟩ := hf
  refine g_getR hx hb hts in_Ref hown hK hW (ci := 9) (C := "SecretRowsModel") (T := T_Ref) (N := 36) rfl (k := 19) (by decide) (hts _ kw_539) (fun _ h9 => h9) hr_31 dRef_step_123 ?_
  refine lv_bipush (v := 10) hx hb dRef_step_126 (by decide) ?_
  refine lv_aload_n hx hb dRef_step_128 rfl (lv_at hl 1 rfl) ?_
  replace hf := g_bd hf
  obtain ⟨v_32, hv_32, hf⟩ := hf
  refine g_getI hx hb hts in_Ref hown hK hW (ci := 9) (C := "SecretRowsModel") (T := T_Ref) (N := 36) rfl (k := 4) (by decide) (hts _ kw_524) (fun _ h9 => h9) hv_32 dRef_step_129 ?_
  refine lv_imul hx hb dRef_step_132 ?_
  refine lv_iload hx hb dRef_step_133 (lv_at hl 6 rfl) ?_
  refine lv_iadd hx hb dRef_step_135 ?_
  refine lv_iload hx hb dRef_step_136 (lv_at hl 0 rfl) ?_
  refine lv_if_eq (tgt := 151) hx hb dRef_step_138 (by decide) (fun c_33 => ?_) (fun c_33 => ?_)
  · replace hf := g_it c_33 hf
    refine lv_iconst (v := (-1)) hx hb dRef_step_151 (by decide) ?_
    replace hf := g_bd hf
    obtain ⟨a_34, ea_34, hf⟩ := hf
    subst ea_34
    refine W.eq (g2 := F0 m 152 _ [.int (-1), .int ((10 * v_32) + i5b), .ref a_34]) rfl ?_
    replace hf := g_bd hf
    obtain ⟨z_35, hz_35, hf⟩ := hf
    refine g_ast_i hx hb hW hS hz_35 dRef_step_152 (fun H locs hW hS => ?_)
    refine lv_iinc (v := (i5b + 1)) (lv' := [(5, .int (i5b + 1)), (6, .int is0), (0, .ref a0b), (1, .int i1b), (2, .int i2b), (3, .int i3b), (4, .int i4b)]) hx hb dRef_step_153 hl (k := 6) rfl rfl (by decide) rfl (fun _ hl1 => ?_)
    clear hl
    have hl := hl1
    clear hl1
    refine lv_goto (tgt := 49) hx hb dRef_step_156 (by decide) ?_
    exact hk49 a0b i1b i2b i3b i4b (i5b + 1) _ _ _ _ hf hW hS (lv_sub hl [2, 3, 4, 5, 6, 0] rfl)
  · replace hf := g_if c_33 hf
    refine lv_aload_n hx hb dRef_step_141 rfl (lv_at hl 1 rfl) ?_
    replace hf := g_bd hf
    obtain ⟨r_36, hr_36, hf⟩ := hf
    refine g_getR hx hb hts in_Ref hown hK hW (ci := 9) (C := "SecretRowsModel") (T := T_Ref) (N := 36) rfl (k := 13) (by decide) (hts _ kw_533) (fun _ h9 => h9) hr_36 dRef_step_142 ?_
    refine lv_iload hx hb dRef_step_145 (lv_at hl 6 rfl) ?_
    replace hf := g_bd hf
    obtain ⟨a_37, ea_37, hf⟩ := hf
    subst ea_37
    refine W.eq (g2 := F0 m 147 _ [.int i5b, .ref a_37, .int ((10 * v_32) + i5b), va_rf r_31]) rfl ?_
    replace hf := g_bd hf
    obtain ⟨v_38, hv_38, hf⟩ := hf
    refine g_ald_i hx hb hK hW hv_38 dRef_step_147 ?_
    refine lv_goto (tgt := 152) hx hb dRef_step_148 (by decide) ?_
    replace hf := g_bd hf
    obtain ⟨a_39, ea_39, hf⟩ := hf
    subst ea_39
    refine W.eq (g2 := F0 m 152 _ [.int v_38, .int ((10 * v_32) + i5b), .ref a_39]) rfl ?_
    replace hf := g_bd hf
    obtain ⟨z_40, hz_40, hf⟩ := hf
    refine g_ast_i hx hb hW hS hz_40 dRef_step_152 (fun H locs hW hS => ?_)
    refine lv_iinc (v := (i5b + 1)) (lv' := [(5, .int (i5b + 1)), (6, .int is0), (0, .ref a0b), (1, .int i1b), (2, .int i2b), (3, .int i3b), (4, .int i4b)]) hx hb dRef_step_153 hl (k := 6) rfl rfl (by decide) rfl (fun _ hl1 => ?_)
    clear hl
    have hl := hl1
    clear hl1
    refine lv_goto (tgt := 49) hx hb dRef_step_156 (by decide) ?_
    exact hk49 a0b i1b i2b i3b i4b (i5b + 1) _ _ _ _ hf hW hS (lv_sub hl [2, 3, 4, 5, 6, 0] rfl)
def fRef_step_J119 (n : Nat) (k49 : Nat → Int32 → Int32 → Int32 → Int32 → Int32 → gS → Option (Int32 × gS)) (a0b : Nat) (i1b : Int32) (i2b : Int32) (i3b : Int32) (i4b : Int32) (i5b : Int32) (z : gS) : Option (Int32 × gS) :=
    fRef_step_J120 n k49 a0b i1b i2b i3b i4b i5b 0 z
set_option maxHeartbeats 4000000 in
set_option maxRecDepth 100000 in
theorem bRef_step_119 {p : Program} {l : Launch} {e : Env} {s : State} {m : MethodId} {args : Array Value} {below : List Frame} {meth : Method} {c : Code} {D : va_G} {A : Nat → Prop} (C : g_C p s m meth c args cRef_step 7 (some .int) "SecretRowsModel" gW D vwCl gNN gOO A) (n : Nat) {r : Int32} {z' : gS}
    {k49 : Nat → Int32 → Int32 → Int32 → Int32 → Int32 → gS → Option (Int32 × gS)} (hk49 : ∀ (a0b : Nat) (i1b : Int32) (i2b : Int32) (i3b : Int32) (i4b : Int32) (i5b : Int32) (z : gS) (H : Heap) (locs : List Loc) (ls : Array Slot), k49 a0b i1b i2b i3b i4b i5b z = some (r, z') → g_W D vwCl A z s H → va_S A s.heap H locs → lv_has ls 7 [(0, .ref a0b), (1, .int i1b), (2, .int i2b), (3, .int i3b), (4, .int i4b), (5, .int i5b)] → W p l e (headSpec wsRef_step ({ frames := 0, cells := 0, slots := 0, locals := 0 })).room s m args below meth c H locs 0 0 (MQ below (g_Qi D vwCl A r z') args s 0 0 A) (F0 m 49 ls [])) : ∀ (a0b : Nat) (i1b : Int32) (i2b : Int32) (i3b : Int32) (i4b : Int32) (i5b : Int32) (z : gS) (H : Heap) (locs : List Loc) (ls : Array Slot), fRef_step_J119 n k49 a0b i1b i2b i3b i4b i5b z = some (r, z') → g_W D vwCl A z s H → va_S A s.heap H locs → lv_has ls 7 [(0, .ref a0b), (1, .int i1b), (2, .int i2b), (3, .int i3b), (4, .int i4b), (5, .int i5b)] → W p l e (headSpec wsRef_step ({ frames := 0, cells := 0, slots := 0, locals := 0 })).room s m args below meth c H locs 0 0 (MQ below (g_Qi D vwCl A r z') args s 0 0 A) (F0 m 119 ls []) := by
  obtain ⟨hx, hb, hr, hml, hown, hts, hlocks, hK, hA⟩ := id C
  intro a0b i1b i2b i3b i4b i5b z H locs ls hf hW hS hl
  unfold fRef_step_J119 at hf
  refine lv_iconst (v := 0) hx hb dRef_step_119 (by decide) ?_
  exact bRef_step_120 C n hk49 a0b i1b i2b i3b i4b i5b 0 _ _ _ _ hf hW hS (lv_sub hl [0, 1, 2, 3, 4, 5] rfl)
def fRef_step_L49 (n : Nat) : Nat → Nat → Int32 → Int32 → Int32 → Int32 → Int32 → gS → Option (Int32 × gS)
  | 0, _, _, _, _, _, _, _ => none
  | k + 1, a0b, i1b, i2b, i3b, i4b, i5b, z =>
    if 10 ≤ i5b then (
    (g_fI z a0b 9 4).bind fun v_11 =>
    (g_pF z a0b 9 4 (.int (v_11 + 1))).bind fun z_12 =>
    (g_fI z_12 a0b 9 4).bind fun v_13 =>
    some ((v_13 - 1), z_12))
    else (
    (g_fI z a0b 9 2).bind fun v_14 =>
    if v_14 ≤ i5b then (
    fRef_step_J119 n (fun a0b i1b i2b i3b i4b i5b z => fRef_step_L49 n k a0b i1b i2b i3b i4b i5b z) a0b i1b i2b i3b i4b i5b z)
    else (
    if i4b = 0 then (
    (g_fR z a0b 9 16).bind fun r_17 =>
    r_17.bind fun a_18 =>
    (g_ldI z .boolean a_18 i5b).bind fun v_19 =>
    if v_19 = 0 then (
    (g_fR z a0b 9 10).bind fun r_21 =>
    r_21.bind fun a_22 =>
    (g_ldI z .int a_22 i5b).bind fun v_23 =>
    (g_fR z a0b 9 11).bind fun r_24 =>
    r_24.bind fun a_25 =>
    (g_ldI z .int a_25 i5b).bind fun v_26 =>
    (g_fR z a0b 9 12).bind fun r_27 =>
    r_27.bind fun a_28 =>
    (g_ldI z .int a_28 i5b).bind fun v_29 =>
    if (((((v_23 >>> (i1b &&& 31)) &&& (v_26 >>> (i2b &&& 31))) &&& (v_29 >>> (i3b &&& 31))) &&& 1)) = 1 then (
    fRef_step_J120 n (fun a0b i1b i2b i3b i4b i5b z => fRef_step_L49 n k a0b i1b i2b i3b i4b i5b z) a0b i1b i2b i3b i4b i5b 1 z)
    else (
    fRef_step_J119 n (fun a0b i1b i2b i3b i4b i5b z => fRef_step_L49 n k a0b i1b i2b i3b i4b i5b z) a0b i1b i2b i3b i4b i5b z))
    else (
    fRef_step_J119 n (fun a0b i1b i2b i3b i4b i5b z => fRef_step_L49 n k a0b i1b i2b i3b i4b i5b z) a0b i1b i2b i3b i4b i5b z))
    else (
    fRef_step_J119 n (fun a0b i1b i2b i3b i4b i5b z => fRef_step_L49 n k a0b i1b i2b i3b i4b i5b z) a0b i1b i2b i3b i4b i5b z)))
set_option maxHeartbeats 4000000 in
set_option maxRecDepth 100000 in
theorem bRef_step_49 {p : Program} {l : Launch} {e : Env} {s : State} {m : MethodId} {args : Array Value} {below : List Frame} {meth : Method} {c : Code} {D : va_G} {A : Nat → Prop} (C : g_C p s m meth c args cRef_step 7 (some .int) "SecretRowsModel" gW D vwCl gNN gOO A) (n : Nat) {r : Int32} {z' : gS} : ∀ k : Nat, ∀ (a0b : Nat) (i1b : Int32) (i2b : Int32) (i3b : Int32) (i4b : Int32) (i5b : Int32) (z : gS) (H : Heap) (locs : List Loc) (ls : Array Slot), fRef_step_L49 n k a0b i1b i2b i3b i4b i5b z = some (r, z') → g_W D vwCl A z s H → va_S A s.heap H locs → lv_has ls 7 [(0, .ref a0b), (1, .int i1b), (2, .int i2b), (3, .int i3b), (4, .int i4b), (5, .int i5b)] → W p l e (headSpec wsRef_step ({ frames := 0, cells := 0, slots := 0, locals := 0 })).room s m args below meth c H locs 0 0 (MQ below (g_Qi D vwCl A r z') args s 0 0 A) (F0 m 49 ls []) := by
  obtain ⟨hx, hb, hr, hml, hown, hts, hlocks, hK, hA⟩ := id C
  intro k
  induction k with
  | zero =>
    intro a0b i1b i2b i3b i4b i5b z H locs ls hf
    have hf : (none : Option (Int32 × gS)) = some _ := hf
    cases hf
  | succ k ih =>
    intro a0b i1b i2b i3b i4b i5b z H locs ls hf hW hS hl
    rw [fRef_step_L49] at hf
    refine lv_iload hx hb dRef_step_49 (lv_at hl 5 rfl) ?_
    refine lv_bipush (v := 10) hx hb dRef_step_51 (by decide) ?_
    refine lv_icmp_ge (tgt := 159) hx hb dRef_step_53 (by decide) (fun c_10 => ?_) (fun c_10 => ?_)
    · replace hf := g_it c_10 hf
      refine lv_aload_n hx hb dRef_step_159 rfl (lv_at hl 0 rfl) ?_
      refine lv_dup hx hb dRef_step_160 rfl ?_
      replace hf := g_bd hf
      obtain ⟨v_11, hv_11, hf⟩ := hf
      refine g_getI hx hb hts in_Ref hown hK hW (ci := 9) (C := "SecretRowsModel") (T := T_Ref) (N := 36) rfl (k := 4) (by decide) (hts _ kw_524) (fun _ h9 => h9) hv_11 dRef_step_161 ?_
      refine lv_iconst (v := 1) hx hb dRef_step_164 (by decide) ?_
      refine lv_iadd hx hb dRef_step_165 ?_
      replace hf := g_bd hf
      obtain ⟨z_12, hz_12, hf⟩ := hf
      refine g_put hx hb hts in_Ref ty_Ref tyok_Ref nm_Ref hown hK hW hS (ci := 9) (C := "SecretRowsModel") (T := T_Ref) (N := 36) rfl (k := 4) (by decide) (hts _ kw_524) (fun _ h9 => h9) rfl (ty := .int) (by decide +kernel) rfl rfl hz_12 dRef_step_166 (fun H locs hW hS => ?_)
      refine lv_aload_n hx hb dRef_step_169 rfl (lv_at hl 0 rfl) ?_
      replace hf := g_bd hf
      obtain ⟨v_13, hv_13, hf⟩ := hf
      refine g_getI hx hb hts in_Ref hown hK hW (ci := 9) (C := "SecretRowsModel") (T := T_Ref) (N := 36) rfl (k := 4) (by decide) (hts _ kw_524) (fun _ h9 => h9) hv_13 dRef_step_170 ?_
      refine lv_iconst (v := 1) hx hb dRef_step_173 (by decide) ?_
      refine lv_isub hx hb dRef_step_174 ?_
      cases hf
      exact g_reti hx hb hr hlocks hW hS (Nat.le_of_ble_eq_true rfl) (Nat.le_of_ble_eq_true rfl) dRef_step_175
    · replace hf := g_if c_10 hf
      refine lv_iload hx hb dRef_step_56 (lv_at hl 5 rfl) ?_
      refine lv_aload_n hx hb dRef_step_58 rfl (lv_at hl 0 rfl) ?_
      replace hf := g_bd hf
      obtain ⟨v_14, hv_14, hf⟩ := hf
      refine g_getI hx hb hts in_Ref hown hK hW (ci := 9) (C := "SecretRowsModel") (T := T_Ref) (N := 36) rfl (k := 2) (by decide) (hts _ kw_522) (fun _ h9 => h9) hv_14 dRef_step_59 ?_
      refine lv_icmp_ge (tgt := 119) hx hb dRef_step_62 (by decide) (fun c_15 => ?_) (fun c_15 => ?_)
      · replace hf := g_it c_15 hf
        exact bRef_step_119 C n (fun a0b i1b i2b i3b i4b i5b => ih a0b i1b i2b i3b i4b i5b) a0b i1b i2b i3b i4b i5b _ _ _ _ hf hW hS (lv_sub hl [0, 1, 2, 3, 4, 5] rfl)
      · replace hf := g_if c_15 hf
        refine lv_iload hx hb dRef_step_65 (lv_at hl 4 rfl) ?_
        refine lv_if_ne (tgt := 119) hx hb dRef_step_67 (by decide) (fun c_16 => ?_) (fun c_16 => ?_)
        · replace hf := g_if c_16 hf
          exact bRef_step_119 C n (fun a0b i1b i2b i3b i4b i5b => ih a0b i1b i2b i3b i4b i5b) a0b i1b i2b i3b i4b i5b _ _ _ _ hf hW hS (lv_sub hl [0, 1, 2, 3, 4, 5] rfl)
        · replace hf := g_it c_16 hf
          refine lv_aload_n hx hb dRef_step_70 rfl (lv_at hl 0 rfl) ?_
          replace hf := g_bd hf
          obtain ⟨r_17, hr_17, hf⟩ := hf
          refine g_getR hx hb hts in_Ref hown hK hW (ci := 9) (C := "SecretRowsModel") (T := T_Ref) (N := 36) rfl (k := 16) (by decide) (hts _ kw_536) (fun _ h9 => h9) hr_17 dRef_step_71 ?_
          refine lv_iload hx hb dRef_step_74 (lv_at hl 5 rfl) ?_
          replace hf := g_bd hf
          obtain ⟨a_18, ea_18, hf⟩ := hf
          subst ea_18
          refine W.eq (g2 := F0 m 76 _ [.int i5b, .ref a_18]) rfl ?_
          replace hf := g_bd hf
          obtain ⟨v_19, hv_19, hf⟩ := hf
          refine g_ald_z hx hb hK hW hv_19 dRef_step_76 ?_
          refine lv_if_ne (tgt := 119) hx hb dRef_step_77 (by decide) (fun c_20 => ?_) (fun c_20 => ?_)
          · replace hf := g_if c_20 hf
            exact bRef_step_119 C n (fun a0b i1b i2b i3b i4b i5b => ih a0b i1b i2b i3b i4b i5b) a0b i1b i2b i3b i4b i5b _ _ _ _ hf hW hS (lv_sub hl [0, 1, 2, 3, 4, 5] rfl)
          · replace hf := g_it c_20 hf
            refine lv_aload_n hx hb dRef_step_80 rfl (lv_at hl 0 rfl) ?_
            replace hf := g_bd hf
            obtain ⟨r_21, hr_21, hf⟩ := hf
            refine g_getR hx hb hts in_Ref hown hK hW (ci := 9) (C := "SecretRowsModel") (T := T_Ref) (N := 36) rfl (k := 10) (by decide) (hts _ kw_530) (fun _ h9 => h9) hr_21 dRef_step_81 ?_
            refine lv_iload hx hb dRef_step_84 (lv_at hl 5 rfl) ?_
            replace hf := g_bd hf
            obtain ⟨a_22, ea_22, hf⟩ := hf
            subst ea_22
            refine W.eq (g2 := F0 m 86 _ [.int i5b, .ref a_22]) rfl ?_
            replace hf := g_bd hf
            obtain ⟨v_23, hv_23, hf⟩ := hf
            refine g_ald_i hx hb hK hW hv_23 dRef_step_86 ?_
            refine lv_iload_n hx hb dRef_step_87 rfl (lv_at hl 1 rfl) ?_
            refine lv_ishr hx hb dRef_step_88 ?_
            refine lv_aload_n hx hb dRef_step_89 rfl (lv_at hl 0 rfl) ?_
            replace hf := g_bd hf
            obtain ⟨r_24, hr_24, hf⟩ := hf
            refine g_getR hx hb hts in_Ref hown hK hW (ci := 9) (C := "SecretRowsModel") (T := T_Ref) (N := 36) rfl (k := 11) (by decide) (hts _ kw_531) (fun _ h9 => h9) hr_24 dRef_step_90 ?_
            refine lv_iload hx hb dRef_step_93 (lv_at hl 5 rfl) ?_
            replace hf := g_bd hf
            obtain ⟨a_25, ea_25, hf⟩ := hf
            subst ea_25
            refine W.eq (g2 := F0 m 95 _ [.int i5b, .ref a_25, .int (v_23 >>> (i1b &&& 31))]) rfl ?_
            replace hf := g_bd hf
            obtain ⟨v_26, hv_26, hf⟩ := hf
            refine g_ald_i hx hb hK hW hv_26 dRef_step_95 ?_
            refine lv_iload_n hx hb dRef_step_96 rfl (lv_at hl 2 rfl) ?_
            refine lv_ishr hx hb dRef_step_97 ?_
            refine lv_iand hx hb dRef_step_98 ?_
            refine lv_aload_n hx hb dRef_step_99 rfl (lv_at hl 0 rfl) ?_
            replace hf := g_bd hf
            obtain ⟨r_27, hr_27, hf⟩ := hf
            refine g_getR hx hb hts in_Ref hown hK hW (ci := 9) (C := "SecretRowsModel") (T := T_Ref) (N := 36) rfl (k := 12) (by decide) (hts _ kw_532) (fun _ h9 => h9) hr_27 dRef_step_100 ?_
            refine lv_iload hx hb dRef_step_103 (lv_at hl 5 rfl) ?_
            replace hf := g_bd hf
            obtain ⟨a_28, ea_28, hf⟩ := hf
            subst ea_28
            refine W.eq (g2 := F0 m 105 _ [.int i5b, .ref a_28, .int ((v_23 >>> (i1b &&& 31)) &&& (v_26 >>> (i2b &&& 31)))]) rfl ?_
            replace hf := g_bd hf
            obtain ⟨v_29, hv_29, hf⟩ := hf
            refine g_ald_i hx hb hK hW hv_29 dRef_step_105 ?_
            refine lv_iload_n hx hb dRef_step_106 rfl (lv_at hl 3 rfl) ?_
            refine lv_ishr hx hb dRef_step_107 ?_
            refine lv_iand hx hb dRef_step_108 ?_
            refine lv_iconst (v := 1) hx hb dRef_step_109 (by decide) ?_
            refine lv_iand hx hb dRef_step_110 ?_
            refine lv_iconst (v := 1) hx hb dRef_step_111 (by decide) ?_
            refine lv_icmp_ne (tgt := 119) hx hb dRef_step_112 (by decide) (fun c_30 => ?_) (fun c_30 => ?_)
            · replace hf := g_if c_30 hf
              exact bRef_step_119 C n (fun a0b i1b i2b i3b i4b i5b => ih a0b i1b i2b i3b i4b i5b) a0b i1b i2b i3b i4b i5b _ _ _ _ hf hW hS (lv_sub hl [0, 1, 2, 3, 4, 5] rfl)
            · replace hf := g_it c_30 hf
              refine lv_iconst (v := 1) hx hb dRef_step_115 (by decide) ?_
              refine lv_goto (tgt := 120) hx hb dRef_step_116 (by decide) ?_
              exact bRef_step_120 C n (fun a0b i1b i2b i3b i4b i5b => ih a0b i1b i2b i3b i4b i5b) a0b i1b i2b i3b i4b i5b 1 _ _ _ _ hf hW hS (lv_sub hl [0, 1, 2, 3, 4, 5] rfl)
def fRef_step (n : Nat) (a0 : Nat) (i1 : Int32) (i2 : Int32) (i3 : Int32) (i4 : Int32) (z : gS) : Option (Int32 × gS) :=
    (g_pF z a0 9 0 (.int 0)).bind fun z_1 =>
    (g_fI z_1 a0 9 4).bind fun v_2 =>
    if v_2 = 12 then (
    some ((-1), z_1))
    else (
    if i1 < 0 then (
    some ((-1), z_1))
    else (
    if 7 < i1 then (
    some ((-1), z_1))
    else (
    if i2 < 0 then (
    some ((-1), z_1))
    else (
    if 7 < i2 then (
    some ((-1), z_1))
    else (
    if i3 < 0 then (
    some ((-1), z_1))
    else (
    if i3 ≤ 7 then (
    fRef_step_L49 n n a0 i1 i2 i3 i4 0 z_1)
    else (
    some ((-1), z_1))))))))
set_option maxHeartbeats 4000000 in
set_option maxRecDepth 100000 in
theorem mRef_step (l : Launch) (D : va_G) (A : Nat → Prop) (n : Nat) (z z' : gS) (a0 : Nat) (i1 : Int32) (i2 : Int32) (i3 : Int32) (i4 : Int32) (r : Int32) (hf : fRef_step n a0 i1 i2 i3 i4 z = some (r, z')) : Met l yRef_step wsRef_step ({ frames := 0, cells := 0, slots := 0, locals := 0 }) (g_P D vwCl gNN gOO A z [.ref a0, .int i1, .int i2, .int i3, .int i4]) (g_Qi D vwCl A r z') 0 0 A := by
  refine Met.ofW (cc := cRef_step) (maxL := 7) (ret := (some .int)) (by decide) rfl ?_
  intro p e s m args below meth c s₁ B hml hv
  obtain ⟨rfl, hW, hK, hA0⟩ := hv
  have C : g_C p s m meth c _ cRef_step 7 (some .int) "SecretRowsModel" gW D vwCl gNN gOO A := ⟨B.exec, B.bytes, B.returns, hml, findClass_of_methodNamed B.named, fun w hw => atoms_spec (ws := wsRef_step) B.pre w (List.mem_cons_of_mem _ hw), B.notSynchronized, hK, fun q hq => hA0 q (by rw [← hW.1]; exact hq)⟩
  have hS : va_S A s.heap s.heap [] := va_S.rf
  have hl := lv_entry ([.ref a0, .int i1, .int i2, .int i3, .int i4]) (n := 7) (Nat.le_of_ble_eq_true rfl)
  rw [lg_entry_eq]
  generalize (lg_sl ([.ref a0, .int i1, .int i2, .int i3, .int i4]) ++ List.replicate (7 - (lg_sl ([.ref a0, .int i1, .int i2, .int i3, .int i4])).length) Slot.unset).toArray = ls at hl ⊢
  have hl : lv_has ls 7 [(0, .ref a0), (1, .int i1), (2, .int i2), (3, .int i3), (4, .int i4)] := hl
  obtain ⟨hx, hb, hr, hml, hown, hts, hlocks, hK, hA⟩ := id C
  unfold fRef_step at hf
  refine lv_aload_n hx hb dRef_step_0 rfl (lv_at hl 0 rfl) ?_
  refine lv_iconst (v := 0) hx hb dRef_step_1 (by decide) ?_
  replace hf := g_bd hf
  obtain ⟨z_1, hz_1, hf⟩ := hf
  refine g_put hx hb hts in_Ref ty_Ref tyok_Ref nm_Ref hown hK hW hS (ci := 9) (C := "SecretRowsModel") (T := T_Ref) (N := 36) rfl (k := 0) (by decide) (hts _ kw_520) (fun _ h9 => h9) rfl (ty := .int) (by decide +kernel) rfl rfl hz_1 dRef_step_2 (fun H locs hW hS => ?_)
  refine lv_aload_n hx hb dRef_step_5 rfl (lv_at hl 0 rfl) ?_
  replace hf := g_bd hf
  obtain ⟨v_2, hv_2, hf⟩ := hf
  refine g_getI hx hb hts in_Ref hown hK hW (ci := 9) (C := "SecretRowsModel") (T := T_Ref) (N := 36) rfl (k := 4) (by decide) (hts _ kw_524) (fun _ h9 => h9) hv_2 dRef_step_6 ?_
  refine lv_bipush (v := 12) hx hb dRef_step_9 (by decide) ?_
  refine lv_icmp_eq (tgt := 44) hx hb dRef_step_11 (by decide) (fun c_3 => ?_) (fun c_3 => ?_)
  · replace hf := g_it c_3 hf
    refine lv_iconst (v := (-1)) hx hb dRef_step_44 (by decide) ?_
    cases hf
    exact g_reti hx hb hr hlocks hW hS (Nat.le_of_ble_eq_true rfl) (Nat.le_of_ble_eq_true rfl) dRef_step_45
  · replace hf := g_if c_3 hf
    refine lv_iload_n hx hb dRef_step_14 rfl (lv_at hl 1 rfl) ?_
    refine lv_if_lt (tgt := 44) hx hb dRef_step_15 (by decide) (fun c_4 => ?_) (fun c_4 => ?_)
    · replace hf := g_it c_4 hf
      refine lv_iconst (v := (-1)) hx hb dRef_step_44 (by decide) ?_
      cases hf
      exact g_reti hx hb hr hlocks hW hS (Nat.le_of_ble_eq_true rfl) (Nat.le_of_ble_eq_true rfl) dRef_step_45
    · replace hf := g_if c_4 hf
      refine lv_iload_n hx hb dRef_step_18 rfl (lv_at hl 1 rfl) ?_
      refine lv_bipush (v := 7) hx hb dRef_step_19 (by decide) ?_
      refine lv_icmp_gt (tgt := 44) hx hb dRef_step_21 (by decide) (fun c_5 => ?_) (fun c_5 => ?_)
      · replace hf := g_it c_5 hf
        refine lv_iconst (v := (-1)) hx hb dRef_step_44 (by decide) ?_
        cases hf
        exact g_reti hx hb hr hlocks hW hS (Nat.le_of_ble_eq_true rfl) (Nat.le_of_ble_eq_true rfl) dRef_step_45
      · replace hf := g_if c_5 hf
        refine lv_iload_n hx hb dRef_step_24 rfl (lv_at hl 2 rfl) ?_
        refine lv_if_lt (tgt := 44) hx hb dRef_step_25 (by decide) (fun c_6 => ?_) (fun c_6 => ?_)
        · replace hf := g_it c_6 hf
          refine lv_iconst (v := (-1)) hx hb dRef_step_44 (by decide) ?_
          cases hf
          exact g_reti hx hb hr hlocks hW hS (Nat.le_of_ble_eq_true rfl) (Nat.le_of_ble_eq_true rfl) dRef_step_45
        · replace hf := g_if c_6 hf
          refine lv_iload_n hx hb dRef_step_28 rfl (lv_at hl 2 rfl) ?_
          refine lv_bipush (v := 7) hx hb dRef_step_29 (by decide) ?_
          refine lv_icmp_gt (tgt := 44) hx hb dRef_step_31 (by decide) (fun c_7 => ?_) (fun c_7 => ?_)
          · replace hf := g_it c_7 hf
            refine lv_iconst (v := (-1)) hx hb dRef_step_44 (by decide) ?_
            cases hf
            exact g_reti hx hb hr hlocks hW hS (Nat.le_of_ble_eq_true rfl) (Nat.le_of_ble_eq_true rfl) dRef_step_45
          · replace hf := g_if c_7 hf
            refine lv_iload_n hx hb dRef_step_34 rfl (lv_at hl 3 rfl) ?_
            refine lv_if_lt (tgt := 44) hx hb dRef_step_35 (by decide) (fun c_8 => ?_) (fun c_8 => ?_)
            · replace hf := g_it c_8 hf
              refine lv_iconst (v := (-1)) hx hb dRef_step_44 (by decide) ?_
              cases hf
              exact g_reti hx hb hr hlocks hW hS (Nat.le_of_ble_eq_true rfl) (Nat.le_of_ble_eq_true rfl) dRef_step_45
            · replace hf := g_if c_8 hf
              refine lv_iload_n hx hb dRef_step_38 rfl (lv_at hl 3 rfl) ?_
              refine lv_bipush (v := 7) hx hb dRef_step_39 (by decide) ?_
              refine lv_icmp_le (tgt := 46) hx hb dRef_step_41 (by decide) (fun c_9 => ?_) (fun c_9 => ?_)
              · replace hf := g_it c_9 hf
                refine lv_iconst (v := 0) hx hb dRef_step_46 (by decide) ?_
                refine lv_istore (lv' := [(5, .int 0), (0, .ref a0), (1, .int i1), (2, .int i2), (3, .int i3), (4, .int i4)]) hx hb dRef_step_47 hl (by decide) rfl (fun _ hl1 => ?_)
                clear hl
                have hl := hl1
                clear hl1
                exact bRef_step_49 C n n a0 i1 i2 i3 i4 0 _ _ _ _ hf hW hS (lv_sub hl [1, 2, 3, 4, 5, 0] rfl)
              · replace hf := g_if c_9 hf
                refine lv_iconst (v := (-1)) hx hb dRef_step_44 (by decide) ?_
                cases hf
                exact g_reti hx hb hr hlocks hW hS (Nat.le_of_ble_eq_true rfl) (Nat.le_of_ble_eq_true rfl) dRef_step_45

def fRef_keptOf (n : Nat) (a0 : Nat) (i1 : Int32) (i2 : Int32) (z : gS) : Option (Int32 × gS) :=
    (g_is z a0 9).bind fun _ =>
    g_bp (fRef_isStep n a0 i1 z) fun v_3 z_2 =>
    if v_3 = 0 then (
    some ((-1), z_2))
    else (
    (g_is z_2 a0 9).bind fun _ =>
    g_bp (fRef_isSecret n a0 i2 z_2) fun v_7 z_6 =>
    if v_7 = 0 then (
    some ((-1), z_6))
    else (
    (g_fR z_6 a0 9 19).bind fun r_9 =>
    r_9.bind fun a_10 =>
    (g_ldI z_6 .int a_10 ((10 * i1) + i2)).bind fun v_11 =>
    some (v_11, z_6)))
set_option maxHeartbeats 4000000 in
set_option maxRecDepth 100000 in
theorem mRef_keptOf (l : Launch) (D : va_G) (A : Nat → Prop) (n : Nat) (z z' : gS) (a0 : Nat) (i1 : Int32) (i2 : Int32) (r : Int32) (hf : fRef_keptOf n a0 i1 i2 z = some (r, z')) : Met l yRef_keptOf wsRef_keptOf ({ frames := 1, cells := 0, slots := 0, locals := 21 }) (g_P D vwCl gNN gOO A z [.ref a0, .int i1, .int i2]) (g_Qi D vwCl A r z') 0 0 A := by
  refine Met.ofW (cc := cRef_keptOf) (maxL := 3) (ret := (some .int)) (by decide) rfl ?_
  intro p e s m args below meth c s₁ B hml hv
  obtain ⟨rfl, hW, hK, hA0⟩ := hv
  have C : g_C p s m meth c _ cRef_keptOf 3 (some .int) "SecretRowsModel" gW D vwCl gNN gOO A := ⟨B.exec, B.bytes, B.returns, hml, findClass_of_methodNamed B.named, fun w hw => atoms_spec (ws := wsRef_keptOf) B.pre w (List.mem_cons_of_mem _ hw), B.notSynchronized, hK, fun q hq => hA0 q (by rw [← hW.1]; exact hq)⟩
  have hS : va_S A s.heap s.heap [] := va_S.rf
  have hl := lv_entry ([.ref a0, .int i1, .int i2]) (n := 3) (Nat.le_of_ble_eq_true rfl)
  rw [lg_entry_eq]
  generalize (lg_sl ([.ref a0, .int i1, .int i2]) ++ List.replicate (3 - (lg_sl ([.ref a0, .int i1, .int i2])).length) Slot.unset).toArray = ls at hl ⊢
  have hl : lv_has ls 3 [(0, .ref a0), (1, .int i1), (2, .int i2)] := hl
  obtain ⟨hx, hb, hr, hml, hown, hts, hlocks, hK, hA⟩ := id C
  unfold fRef_keptOf at hf
  refine lv_aload_n hx hb dRef_keptOf_0 rfl (lv_at hl 0 rfl) ?_
  refine lv_iload_n hx hb dRef_keptOf_1 rfl (lv_at hl 1 rfl) ?_
  replace hf := g_bd hf
  obtain ⟨_, hi_1, hf⟩ := hf
  replace hf := g_bps hf
  obtain ⟨v_3, z_2, hz_2, hf⟩ := hf
  refine g_goi (g_rV (As := [.int i1]) (rest := []) ⟨hx, hb, hml, hown, hts⟩ (mRef_isStep l D A n _ _ a0 i1 _ hz_2) (cwV 1 hts (gi_V kw_672 kw_674 ks_Ref_isStep kw_6 kw_675) rfl rfl rfl ⟨rfl, hdRef_isStep⟩ ⟨Nat.le_of_ble_eq_true rfl, Nat.le_of_ble_eq_true rfl⟩) hK hW hS hA (ci := 9) (T := T_Ref) (N := 36) rfl hi_1 rfl hl.1 rfl (Nat.le_of_ble_eq_true rfl) dRef_keptOf_2 ⟨Nat.le_of_ble_eq_true rfl, Nat.le_of_ble_eq_true rfl⟩) hS (fun H locs hW hS => ?_)
  refine lv_if_eq (tgt := 30) hx hb dRef_keptOf_5 (by decide) (fun c_4 => ?_) (fun c_4 => ?_)
  · replace hf := g_it c_4 hf
    refine lv_iconst (v := (-1)) hx hb dRef_keptOf_30 (by decide) ?_
    cases hf
    exact g_reti hx hb hr hlocks hW hS (Nat.le_of_ble_eq_true rfl) (Nat.le_of_ble_eq_true rfl) dRef_keptOf_31
  · replace hf := g_if c_4 hf
    refine lv_aload_n hx hb dRef_keptOf_8 rfl (lv_at hl 0 rfl) ?_
    refine lv_iload_n hx hb dRef_keptOf_9 rfl (lv_at hl 2 rfl) ?_
    replace hf := g_bd hf
    obtain ⟨_, hi_5, hf⟩ := hf
    replace hf := g_bps hf
    obtain ⟨v_7, z_6, hz_6, hf⟩ := hf
    refine g_goi (g_rV (As := [.int i2]) (rest := []) ⟨hx, hb, hml, hown, hts⟩ (mRef_isSecret l D A n _ _ a0 i2 _ hz_6) (cwV 1 hts (gi_V kw_642 kw_644 ks_Ref_isSecret kw_6 kw_645) rfl rfl rfl ⟨rfl, hdRef_isSecret⟩ ⟨Nat.le_of_ble_eq_true rfl, Nat.le_of_ble_eq_true rfl⟩) hK hW hS hA (ci := 9) (T := T_Ref) (N := 36) rfl hi_5 rfl hl.1 rfl (Nat.le_of_ble_eq_true rfl) dRef_keptOf_10 ⟨Nat.le_of_ble_eq_true rfl, Nat.le_of_ble_eq_true rfl⟩) hS (fun H locs hW hS => ?_)
    refine lv_if_eq (tgt := 30) hx hb dRef_keptOf_13 (by decide) (fun c_8 => ?_) (fun c_8 => ?_)
    · replace hf := g_it c_8 hf
      refine lv_iconst (v := (-1)) hx hb dRef_keptOf_30 (by decide) ?_
      cases hf
      exact g_reti hx hb hr hlocks hW hS (Nat.le_of_ble_eq_true rfl) (Nat.le_of_ble_eq_true rfl) dRef_keptOf_31
    · replace hf := g_if c_8 hf
      refine lv_aload_n hx hb dRef_keptOf_16 rfl (lv_at hl 0 rfl) ?_
      replace hf := g_bd hf
      obtain ⟨r_9, hr_9, hf⟩ := hf
      refine g_getR hx hb hts in_Ref hown hK hW (ci := 9) (C := "SecretRowsModel") (T := T_Ref) (N := 36) rfl (k := 19) (by decide) (hts _ kw_539) (fun _ h9 => h9) hr_9 dRef_keptOf_17 ?_
      refine lv_bipush (v := 10) hx hb dRef_keptOf_20 (by decide) ?_
      refine lv_iload_n hx hb dRef_keptOf_22 rfl (lv_at hl 1 rfl) ?_
      refine lv_imul hx hb dRef_keptOf_23 ?_
      refine lv_iload_n hx hb dRef_keptOf_24 rfl (lv_at hl 2 rfl) ?_
      refine lv_iadd hx hb dRef_keptOf_25 ?_
      replace hf := g_bd hf
      obtain ⟨a_10, ea_10, hf⟩ := hf
      subst ea_10
      refine W.eq (g2 := F0 m 26 _ [.int ((10 * i1) + i2), .ref a_10]) rfl ?_
      replace hf := g_bd hf
      obtain ⟨v_11, hv_11, hf⟩ := hf
      refine g_ald_i hx hb hK hW hv_11 dRef_keptOf_26 ?_
      refine lv_goto (tgt := 31) hx hb dRef_keptOf_27 (by decide) ?_
      cases hf
      exact g_reti hx hb hr hlocks hW hS (Nat.le_of_ble_eq_true rfl) (Nat.le_of_ble_eq_true rfl) dRef_keptOf_31

def fRef_sees_L10 (n : Nat) : Nat → Nat → Int32 → Int32 → Int32 → gS → Option (Int32 × gS)
  | 0, _, _, _, _, _ => none
  | k + 1, a0b, i1b, i3b, i4b, z =>
    (g_fI z a0b 9 2).bind fun v_2 =>
    if v_2 ≤ i4b then (
    some ((-1), z))
    else (
    if i3b < 0 then (
    some ((-1), z))
    else (
    (g_is z a0b 9).bind fun _ =>
    g_bp (fRef_keptOf n a0b i1b i4b z) fun v_7 z_6 =>
    if v_7 = (-1) then (
    fRef_sees_L10 n k a0b i1b i3b (i4b + 1) z_6)
    else (
    if i3b = 0 then (
    some (i4b, z_6))
    else (
    fRef_sees_L10 n k a0b i1b (i3b + (-1)) (i4b + 1) z_6))))
set_option maxHeartbeats 4000000 in
set_option maxRecDepth 100000 in
theorem bRef_sees_10 {p : Program} {l : Launch} {e : Env} {s : State} {m : MethodId} {args : Array Value} {below : List Frame} {meth : Method} {c : Code} {D : va_G} {A : Nat → Prop} (C : g_C p s m meth c args cRef_sees 5 (some .int) "SecretRowsModel" gW D vwCl gNN gOO A) (n : Nat) {r : Int32} {z' : gS} : ∀ k : Nat, ∀ (a0b : Nat) (i1b : Int32) (i3b : Int32) (i4b : Int32) (z : gS) (H : Heap) (locs : List Loc) (ls : Array Slot), fRef_sees_L10 n k a0b i1b i3b i4b z = some (r, z') → g_W D vwCl A z s H → va_S A s.heap H locs → lv_has ls 5 [(0, .ref a0b), (1, .int i1b), (3, .int i3b), (4, .int i4b)] → W p l e (headSpec wsRef_sees ({ frames := 2, cells := 0, slots := 0, locals := 43 })).room s m args below meth c H locs 0 0 (MQ below (g_Qi D vwCl A r z') args s 0 0 A) (F0 m 10 ls []) := by
  obtain ⟨hx, hb, hr, hml, hown, hts, hlocks, hK, hA⟩ := id C
  intro k
  induction k with
  | zero =>
    intro a0b i1b i3b i4b z H locs ls hf
    have hf : (none : Option (Int32 × gS)) = some _ := hf
    cases hf
  | succ k ih =>
    intro a0b i1b i3b i4b z H locs ls hf hW hS hl
    rw [fRef_sees_L10] at hf
    refine lv_iload hx hb dRef_sees_10 (lv_at hl 3 rfl) ?_
    refine lv_aload_n hx hb dRef_sees_12 rfl (lv_at hl 0 rfl) ?_
    replace hf := g_bd hf
    obtain ⟨v_2, hv_2, hf⟩ := hf
    refine g_getI hx hb hts in_Ref hown hK hW (ci := 9) (C := "SecretRowsModel") (T := T_Ref) (N := 36) rfl (k := 2) (by decide) (hts _ kw_522) (fun _ h9 => h9) hv_2 dRef_sees_13 ?_
    refine lv_icmp_ge (tgt := 53) hx hb dRef_sees_16 (by decide) (fun c_3 => ?_) (fun c_3 => ?_)
    · replace hf := g_it c_3 hf
      refine lv_iconst (v := (-1)) hx hb dRef_sees_53 (by decide) ?_
      cases hf
      exact g_reti hx hb hr hlocks hW hS (Nat.le_of_ble_eq_true rfl) (Nat.le_of_ble_eq_true rfl) dRef_sees_54
    · replace hf := g_if c_3 hf
      refine lv_iload_n hx hb dRef_sees_19 rfl (lv_at hl 2 rfl) ?_
      refine lv_if_lt (tgt := 53) hx hb dRef_sees_20 (by decide) (fun c_4 => ?_) (fun c_4 => ?_)
      · replace hf := g_it c_4 hf
        refine lv_iconst (v := (-1)) hx hb dRef_sees_53 (by decide) ?_
        cases hf
        exact g_reti hx hb hr hlocks hW hS (Nat.le_of_ble_eq_true rfl) (Nat.le_of_ble_eq_true rfl) dRef_sees_54
      · replace hf := g_if c_4 hf
        refine lv_aload_n hx hb dRef_sees_23 rfl (lv_at hl 0 rfl) ?_
        refine lv_iload_n hx hb dRef_sees_24 rfl (lv_at hl 1 rfl) ?_
        refine lv_iload hx hb dRef_sees_25 (lv_at hl 3 rfl) ?_
        replace hf := g_bd hf
        obtain ⟨_, hi_5, hf⟩ := hf
        replace hf := g_bps hf
        obtain ⟨v_7, z_6, hz_6, hf⟩ := hf
        refine g_goi (g_rV (As := [.int i1b, .int i4b]) (rest := []) ⟨hx, hb, hml, hown, hts⟩ (mRef_keptOf l D A n _ _ a0b i1b i4b _ hz_6) (cwV 2 hts (gi_V kw_668 kw_670 ks_Ref_keptOf kw_6 kw_671) rfl rfl rfl ⟨rfl, hdRef_keptOf⟩ ⟨Nat.le_of_ble_eq_true rfl, Nat.le_of_ble_eq_true rfl⟩) hK hW hS hA (ci := 9) (T := T_Ref) (N := 36) rfl hi_5 rfl hl.1 rfl (Nat.le_of_ble_eq_true rfl) dRef_sees_27 ⟨Nat.le_of_ble_eq_true rfl, Nat.le_of_ble_eq_true rfl⟩) hS (fun H locs hW hS => ?_)
        refine lv_iconst (v := (-1)) hx hb dRef_sees_30 (by decide) ?_
        refine lv_icmp_ne (tgt := 37) hx hb dRef_sees_31 (by decide) (fun c_8 => ?_) (fun c_8 => ?_)
        · replace hf := g_if c_8 hf
          refine lv_iload_n hx hb dRef_sees_37 rfl (lv_at hl 2 rfl) ?_
          refine lv_if_ne (tgt := 44) hx hb dRef_sees_38 (by decide) (fun c_9 => ?_) (fun c_9 => ?_)
          · replace hf := g_if c_9 hf
            refine lv_iinc (v := (i3b + (-1))) (lv' := [(3, .int (i3b + (-1))), (0, .ref a0b), (1, .int i1b), (4, .int i4b)]) hx hb dRef_sees_44 hl (k := 2) rfl rfl (by decide) rfl (fun _ hl1 => ?_)
            clear hl
            have hl := hl1
            clear hl1
            refine lv_iinc (v := (i4b + 1)) (lv' := [(4, .int (i4b + 1)), (3, .int (i3b + (-1))), (0, .ref a0b), (1, .int i1b)]) hx hb dRef_sees_47 hl (k := 3) rfl rfl (by decide) rfl (fun _ hl1 => ?_)
            clear hl
            have hl := hl1
            clear hl1
            refine lv_goto (tgt := 10) hx hb dRef_sees_50 (by decide) ?_
            exact ih a0b i1b (i3b + (-1)) (i4b + 1) _ _ _ _ hf hW hS (lv_sub hl [2, 3, 1, 0] rfl)
          · replace hf := g_it c_9 hf
            refine lv_iload hx hb dRef_sees_41 (lv_at hl 3 rfl) ?_
            cases hf
            exact g_reti hx hb hr hlocks hW hS (Nat.le_of_ble_eq_true rfl) (Nat.le_of_ble_eq_true rfl) dRef_sees_43
        · replace hf := g_it c_8 hf
          refine lv_goto (tgt := 47) hx hb dRef_sees_34 (by decide) ?_
          refine lv_iinc (v := (i4b + 1)) (lv' := [(4, .int (i4b + 1)), (0, .ref a0b), (1, .int i1b), (3, .int i3b)]) hx hb dRef_sees_47 hl (k := 3) rfl rfl (by decide) rfl (fun _ hl1 => ?_)
          clear hl
          have hl := hl1
          clear hl1
          refine lv_goto (tgt := 10) hx hb dRef_sees_50 (by decide) ?_
          exact ih a0b i1b i3b (i4b + 1) _ _ _ _ hf hW hS (lv_sub hl [1, 2, 3, 0] rfl)
def fRef_sees (n : Nat) (a0 : Nat) (i1 : Int32) (i2 : Int32) (z : gS) : Option (Int32 × gS) :=
    (g_pF z a0 9 0 (.int 0)).bind fun z_1 =>
    fRef_sees_L10 n n a0 i1 i2 0 z_1
set_option maxHeartbeats 4000000 in
set_option maxRecDepth 100000 in
theorem mRef_sees (l : Launch) (D : va_G) (A : Nat → Prop) (n : Nat) (z z' : gS) (a0 : Nat) (i1 : Int32) (i2 : Int32) (r : Int32) (hf : fRef_sees n a0 i1 i2 z = some (r, z')) : Met l yRef_sees wsRef_sees ({ frames := 2, cells := 0, slots := 0, locals := 43 }) (g_P D vwCl gNN gOO A z [.ref a0, .int i1, .int i2]) (g_Qi D vwCl A r z') 0 0 A := by
  refine Met.ofW (cc := cRef_sees) (maxL := 5) (ret := (some .int)) (by decide) rfl ?_
  intro p e s m args below meth c s₁ B hml hv
  obtain ⟨rfl, hW, hK, hA0⟩ := hv
  have C : g_C p s m meth c _ cRef_sees 5 (some .int) "SecretRowsModel" gW D vwCl gNN gOO A := ⟨B.exec, B.bytes, B.returns, hml, findClass_of_methodNamed B.named, fun w hw => atoms_spec (ws := wsRef_sees) B.pre w (List.mem_cons_of_mem _ hw), B.notSynchronized, hK, fun q hq => hA0 q (by rw [← hW.1]; exact hq)⟩
  have hS : va_S A s.heap s.heap [] := va_S.rf
  have hl := lv_entry ([.ref a0, .int i1, .int i2]) (n := 5) (Nat.le_of_ble_eq_true rfl)
  rw [lg_entry_eq]
  generalize (lg_sl ([.ref a0, .int i1, .int i2]) ++ List.replicate (5 - (lg_sl ([.ref a0, .int i1, .int i2])).length) Slot.unset).toArray = ls at hl ⊢
  have hl : lv_has ls 5 [(0, .ref a0), (1, .int i1), (2, .int i2)] := hl
  obtain ⟨hx, hb, hr, hml, hown, hts, hlocks, hK, hA⟩ := id C
  unfold fRef_sees at hf
  refine lv_aload_n hx hb dRef_sees_0 rfl (lv_at hl 0 rfl) ?_
  refine lv_iconst (v := 0) hx hb dRef_sees_1 (by decide) ?_
  replace hf := g_bd hf
  obtain ⟨z_1, hz_1, hf⟩ := hf
  refine g_put hx hb hts in_Ref ty_Ref tyok_Ref nm_Ref hown hK hW hS (ci := 9) (C := "SecretRowsModel") (T := T_Ref) (N := 36) rfl (k := 0) (by decide) (hts _ kw_520) (fun _ h9 => h9) rfl (ty := .int) (by decide +kernel) rfl rfl hz_1 dRef_sees_2 (fun H locs hW hS => ?_)
  refine lv_iload_n hx hb dRef_sees_5 rfl (lv_at hl 2 rfl) ?_
  refine lv_istore_n (lv' := [(3, .int i2), (0, .ref a0), (1, .int i1), (2, .int i2)]) hx hb dRef_sees_6 rfl hl (by decide) rfl (fun _ hl1 => ?_)
  clear hl
  have hl := hl1
  clear hl1
  refine lv_iconst (v := 0) hx hb dRef_sees_7 (by decide) ?_
  refine lv_istore (lv' := [(4, .int 0), (3, .int i2), (0, .ref a0), (1, .int i1), (2, .int i2)]) hx hb dRef_sees_8 hl (by decide) rfl (fun _ hl1 => ?_)
  clear hl
  have hl := hl1
  clear hl1
  exact bRef_sees_10 C n n a0 i1 i2 0 _ _ _ _ hf hW hS (lv_sub hl [2, 3, 1, 0] rfl)

def fRef_read_J74 (n : Nat) (a0b : Nat) (i3b : Int32) (i4b : Int32) (z : gS) : Option (Int32 × gS) :=
    if i3b < 0 then (
    some ((-1), z))
    else (
    (g_fR z a0b 9 8).bind fun r_24 =>
    r_24.bind fun a_25 =>
    (g_ldI z .int a_25 i4b).bind fun v_26 =>
    if i3b < v_26 then (
    (g_fR z a0b 9 9).bind fun r_28 =>
    r_28.bind fun a_29 =>
    (g_ldI z .int a_29 ((12 * i4b) + i3b)).bind fun v_30 =>
    some (v_30, z))
    else (
    some ((-1), z)))
set_option maxHeartbeats 4000000 in
set_option maxRecDepth 100000 in
theorem bRef_read_74 {p : Program} {l : Launch} {e : Env} {s : State} {m : MethodId} {args : Array Value} {below : List Frame} {meth : Method} {c : Code} {D : va_G} {A : Nat → Prop} (C : g_C p s m meth c args cRef_read 5 (some .int) "SecretRowsModel" gW D vwCl gNN gOO A) (n : Nat) {r : Int32} {z' : gS} : ∀ (a0b : Nat) (i3b : Int32) (i4b : Int32) (z : gS) (H : Heap) (locs : List Loc) (ls : Array Slot), fRef_read_J74 n a0b i3b i4b z = some (r, z') → g_W D vwCl A z s H → va_S A s.heap H locs → lv_has ls 5 [(0, .ref a0b), (3, .int i3b), (4, .int i4b)] → W p l e (headSpec wsRef_read ({ frames := 2, cells := 0, slots := 0, locals := 43 })).room s m args below meth c H locs 0 0 (MQ below (g_Qi D vwCl A r z') args s 0 0 A) (F0 m 74 ls []) := by
  obtain ⟨hx, hb, hr, hml, hown, hts, hlocks, hK, hA⟩ := id C
  intro a0b i3b i4b z H locs ls hf hW hS hl
  unfold fRef_read_J74 at hf
  refine lv_iload_n hx hb dRef_read_74 rfl (lv_at hl 1 rfl) ?_
  refine lv_if_lt (tgt := 89) hx hb dRef_read_75 (by decide) (fun c_23 => ?_) (fun c_23 => ?_)
  · replace hf := g_it c_23 hf
    refine lv_iconst (v := (-1)) hx hb dRef_read_89 (by decide) ?_
    refine lv_goto (tgt := 105) hx hb dRef_read_90 (by decide) ?_
    cases hf
    exact g_reti hx hb hr hlocks hW hS (Nat.le_of_ble_eq_true rfl) (Nat.le_of_ble_eq_true rfl) dRef_read_105
  · replace hf := g_if c_23 hf
    refine lv_iload_n hx hb dRef_read_78 rfl (lv_at hl 1 rfl) ?_
    refine lv_aload_n hx hb dRef_read_79 rfl (lv_at hl 0 rfl) ?_
    replace hf := g_bd hf
    obtain ⟨r_24, hr_24, hf⟩ := hf
    refine g_getR hx hb hts in_Ref hown hK hW (ci := 9) (C := "SecretRowsModel") (T := T_Ref) (N := 36) rfl (k := 8) (by decide) (hts _ kw_528) (fun _ h9 => h9) hr_24 dRef_read_80 ?_
    refine lv_iload hx hb dRef_read_83 (lv_at hl 2 rfl) ?_
    replace hf := g_bd hf
    obtain ⟨a_25, ea_25, hf⟩ := hf
    subst ea_25
    refine W.eq (g2 := F0 m 85 _ [.int i4b, .ref a_25, .int i3b]) rfl ?_
    replace hf := g_bd hf
    obtain ⟨v_26, hv_26, hf⟩ := hf
    refine g_ald_i hx hb hK hW hv_26 dRef_read_85 ?_
    refine lv_icmp_lt (tgt := 93) hx hb dRef_read_86 (by decide) (fun c_27 => ?_) (fun c_27 => ?_)
    · replace hf := g_it c_27 hf
      refine lv_aload_n hx hb dRef_read_93 rfl (lv_at hl 0 rfl) ?_
      replace hf := g_bd hf
      obtain ⟨r_28, hr_28, hf⟩ := hf
      refine g_getR hx hb hts in_Ref hown hK hW (ci := 9) (C := "SecretRowsModel") (T := T_Ref) (N := 36) rfl (k := 9) (by decide) (hts _ kw_529) (fun _ h9 => h9) hr_28 dRef_read_94 ?_
      refine lv_bipush (v := 12) hx hb dRef_read_97 (by decide) ?_
      refine lv_iload hx hb dRef_read_99 (lv_at hl 2 rfl) ?_
      refine lv_imul hx hb dRef_read_101 ?_
      refine lv_iload_n hx hb dRef_read_102 rfl (lv_at hl 1 rfl) ?_
      refine lv_iadd hx hb dRef_read_103 ?_
      replace hf := g_bd hf
      obtain ⟨a_29, ea_29, hf⟩ := hf
      subst ea_29
      refine W.eq (g2 := F0 m 104 _ [.int ((12 * i4b) + i3b), .ref a_29]) rfl ?_
      replace hf := g_bd hf
      obtain ⟨v_30, hv_30, hf⟩ := hf
      refine g_ald_i hx hb hK hW hv_30 dRef_read_104 ?_
      cases hf
      exact g_reti hx hb hr hlocks hW hS (Nat.le_of_ble_eq_true rfl) (Nat.le_of_ble_eq_true rfl) dRef_read_105
    · replace hf := g_if c_27 hf
      refine lv_iconst (v := (-1)) hx hb dRef_read_89 (by decide) ?_
      refine lv_goto (tgt := 105) hx hb dRef_read_90 (by decide) ?_
      cases hf
      exact g_reti hx hb hr hlocks hW hS (Nat.le_of_ble_eq_true rfl) (Nat.le_of_ble_eq_true rfl) dRef_read_105
def fRef_read (n : Nat) (a0 : Nat) (i1 : Int32) (i2 : Int32) (i3 : Int32) (z : gS) : Option (Int32 × gS) :=
    (g_pF z a0 9 0 (.int 0)).bind fun z_1 =>
    (g_is z_1 a0 9).bind fun _ =>
    g_bp (fRef_keptOf n a0 i1 i2 z_1) fun v_4 z_3 =>
    if v_4 = (-1) then (
    some ((-1), z_3))
    else (
    (g_fI z_3 a0 9 6).bind fun v_6 =>
    if 200 ≤ v_6 then (
    fRef_read_J74 n a0 i3 v_4 z_3)
    else (
    (g_fR z_3 a0 9 27).bind fun r_8 =>
    (g_fI z_3 a0 9 6).bind fun v_9 =>
    r_8.bind fun a_10 =>
    (g_stI z_3 .int a_10 v_9 i1).bind fun z_11 =>
    (g_fR z_11 a0 9 28).bind fun r_12 =>
    (g_fI z_11 a0 9 6).bind fun v_13 =>
    r_12.bind fun a_14 =>
    (g_stI z_11 .int a_14 v_13 i2).bind fun z_15 =>
    (g_fR z_15 a0 9 29).bind fun r_16 =>
    (g_fI z_15 a0 9 6).bind fun v_17 =>
    (g_fI z_15 a0 9 1).bind fun v_18 =>
    r_16.bind fun a_19 =>
    (g_stI z_15 .int a_19 v_17 v_18).bind fun z_20 =>
    (g_fI z_20 a0 9 6).bind fun v_21 =>
    (g_pF z_20 a0 9 6 (.int (v_21 + 1))).bind fun z_22 =>
    fRef_read_J74 n a0 i3 v_4 z_22))
set_option maxHeartbeats 4000000 in
set_option maxRecDepth 100000 in
theorem mRef_read (l : Launch) (D : va_G) (A : Nat → Prop) (n : Nat) (z z' : gS) (a0 : Nat) (i1 : Int32) (i2 : Int32) (i3 : Int32) (r : Int32) (hf : fRef_read n a0 i1 i2 i3 z = some (r, z')) : Met l yRef_read wsRef_read ({ frames := 2, cells := 0, slots := 0, locals := 43 }) (g_P D vwCl gNN gOO A z [.ref a0, .int i1, .int i2, .int i3]) (g_Qi D vwCl A r z') 0 0 A := by
  refine Met.ofW (cc := cRef_read) (maxL := 5) (ret := (some .int)) (by decide) rfl ?_
  intro p e s m args below meth c s₁ B hml hv
  obtain ⟨rfl, hW, hK, hA0⟩ := hv
  have C : g_C p s m meth c _ cRef_read 5 (some .int) "SecretRowsModel" gW D vwCl gNN gOO A := ⟨B.exec, B.bytes, B.returns, hml, findClass_of_methodNamed B.named, fun w hw => atoms_spec (ws := wsRef_read) B.pre w (List.mem_cons_of_mem _ hw), B.notSynchronized, hK, fun q hq => hA0 q (by rw [← hW.1]; exact hq)⟩
  have hS : va_S A s.heap s.heap [] := va_S.rf
  have hl := lv_entry ([.ref a0, .int i1, .int i2, .int i3]) (n := 5) (Nat.le_of_ble_eq_true rfl)
  rw [lg_entry_eq]
  generalize (lg_sl ([.ref a0, .int i1, .int i2, .int i3]) ++ List.replicate (5 - (lg_sl ([.ref a0, .int i1, .int i2, .int i3])).length) Slot.unset).toArray = ls at hl ⊢
  have hl : lv_has ls 5 [(0, .ref a0), (1, .int i1), (2, .int i2), (3, .int i3)] := hl
  obtain ⟨hx, hb, hr, hml, hown, hts, hlocks, hK, hA⟩ := id C
  unfold fRef_read at hf
  refine lv_aload_n hx hb dRef_read_0 rfl (lv_at hl 0 rfl) ?_
  refine lv_iconst (v := 0) hx hb dRef_read_1 (by decide) ?_
  replace hf := g_bd hf
  obtain ⟨z_1, hz_1, hf⟩ := hf
  refine g_put hx hb hts in_Ref ty_Ref tyok_Ref nm_Ref hown hK hW hS (ci := 9) (C := "SecretRowsModel") (T := T_Ref) (N := 36) rfl (k := 0) (by decide) (hts _ kw_520) (fun _ h9 => h9) rfl (ty := .int) (by decide +kernel) rfl rfl hz_1 dRef_read_2 (fun H locs hW hS => ?_)
  refine lv_aload_n hx hb dRef_read_5 rfl (lv_at hl 0 rfl) ?_
  refine lv_iload_n hx hb dRef_read_6 rfl (lv_at hl 1 rfl) ?_
  refine lv_iload_n hx hb dRef_read_7 rfl (lv_at hl 2 rfl) ?_
  replace hf := g_bd hf
  obtain ⟨_, hi_2, hf⟩ := hf
  replace hf := g_bps hf
  obtain ⟨v_4, z_3, hz_3, hf⟩ := hf
  refine g_goi (g_rV (As := [.int i1, .int i2]) (rest := []) ⟨hx, hb, hml, hown, hts⟩ (mRef_keptOf l D A n _ _ a0 i1 i2 _ hz_3) (cwV 2 hts (gi_V kw_668 kw_670 ks_Ref_keptOf kw_6 kw_671) rfl rfl rfl ⟨rfl, hdRef_keptOf⟩ ⟨Nat.le_of_ble_eq_true rfl, Nat.le_of_ble_eq_true rfl⟩) hK hW hS hA (ci := 9) (T := T_Ref) (N := 36) rfl hi_2 rfl hl.1 rfl (Nat.le_of_ble_eq_true rfl) dRef_read_8 ⟨Nat.le_of_ble_eq_true rfl, Nat.le_of_ble_eq_true rfl⟩) hS (fun H locs hW hS => ?_)
  refine lv_istore (lv' := [(4, .int v_4), (0, .ref a0), (1, .int i1), (2, .int i2), (3, .int i3)]) hx hb dRef_read_11 hl (by decide) rfl (fun _ hl1 => ?_)
  clear hl
  have hl := hl1
  clear hl1
  refine lv_iload hx hb dRef_read_13 (lv_at hl 0 rfl) ?_
  refine lv_iconst (v := (-1)) hx hb dRef_read_15 (by decide) ?_
  refine lv_icmp_ne (tgt := 21) hx hb dRef_read_16 (by decide) (fun c_5 => ?_) (fun c_5 => ?_)
  · replace hf := g_if c_5 hf
    refine lv_aload_n hx hb dRef_read_21 rfl (lv_at hl 1 rfl) ?_
    replace hf := g_bd hf
    obtain ⟨v_6, hv_6, hf⟩ := hf
    refine g_getI hx hb hts in_Ref hown hK hW (ci := 9) (C := "SecretRowsModel") (T := T_Ref) (N := 36) rfl (k := 6) (by decide) (hts _ kw_526) (fun _ h9 => h9) hv_6 dRef_read_22 ?_
    refine lv_sipush (v := 200) hx hb dRef_read_25 (by decide) ?_
    refine lv_icmp_ge (tgt := 74) hx hb dRef_read_28 (by decide) (fun c_7 => ?_) (fun c_7 => ?_)
    · replace hf := g_it c_7 hf
      exact bRef_read_74 C n a0 i3 v_4 _ _ _ _ hf hW hS (lv_sub hl [1, 4, 0] rfl)
    · replace hf := g_if c_7 hf
      refine lv_aload_n hx hb dRef_read_31 rfl (lv_at hl 1 rfl) ?_
      replace hf := g_bd hf
      obtain ⟨r_8, hr_8, hf⟩ := hf
      refine g_getR hx hb hts in_Ref hown hK hW (ci := 9) (C := "SecretRowsModel") (T := T_Ref) (N := 36) rfl (k := 27) (by decide) (hts _ kw_547) (fun _ h9 => h9) hr_8 dRef_read_32 ?_
      refine lv_aload_n hx hb dRef_read_35 rfl (lv_at hl 1 rfl) ?_
      replace hf := g_bd hf
      obtain ⟨v_9, hv_9, hf⟩ := hf
      refine g_getI hx hb hts in_Ref hown hK hW (ci := 9) (C := "SecretRowsModel") (T := T_Ref) (N := 36) rfl (k := 6) (by decide) (hts _ kw_526) (fun _ h9 => h9) hv_9 dRef_read_36 ?_
      refine lv_iload_n hx hb dRef_read_39 rfl (lv_at hl 2 rfl) ?_
      replace hf := g_bd hf
      obtain ⟨a_10, ea_10, hf⟩ := hf
      subst ea_10
      refine W.eq (g2 := F0 m 40 _ [.int i1, .int v_9, .ref a_10]) rfl ?_
      replace hf := g_bd hf
      obtain ⟨z_11, hz_11, hf⟩ := hf
      refine g_ast_i hx hb hW hS hz_11 dRef_read_40 (fun H locs hW hS => ?_)
      refine lv_aload_n hx hb dRef_read_41 rfl (lv_at hl 1 rfl) ?_
      replace hf := g_bd hf
      obtain ⟨r_12, hr_12, hf⟩ := hf
      refine g_getR hx hb hts in_Ref hown hK hW (ci := 9) (C := "SecretRowsModel") (T := T_Ref) (N := 36) rfl (k := 28) (by decide) (hts _ kw_548) (fun _ h9 => h9) hr_12 dRef_read_42 ?_
      refine lv_aload_n hx hb dRef_read_45 rfl (lv_at hl 1 rfl) ?_
      replace hf := g_bd hf
      obtain ⟨v_13, hv_13, hf⟩ := hf
      refine g_getI hx hb hts in_Ref hown hK hW (ci := 9) (C := "SecretRowsModel") (T := T_Ref) (N := 36) rfl (k := 6) (by decide) (hts _ kw_526) (fun _ h9 => h9) hv_13 dRef_read_46 ?_
      refine lv_iload_n hx hb dRef_read_49 rfl (lv_at hl 3 rfl) ?_
      replace hf := g_bd hf
      obtain ⟨a_14, ea_14, hf⟩ := hf
      subst ea_14
      refine W.eq (g2 := F0 m 50 _ [.int i2, .int v_13, .ref a_14]) rfl ?_
      replace hf := g_bd hf
      obtain ⟨z_15, hz_15, hf⟩ := hf
      refine g_ast_i hx hb hW hS hz_15 dRef_read_50 (fun H locs hW hS => ?_)
      refine lv_aload_n hx hb dRef_read_51 rfl (lv_at hl 1 rfl) ?_
      replace hf := g_bd hf
      obtain ⟨r_16, hr_16, hf⟩ := hf
      refine g_getR hx hb hts in_Ref hown hK hW (ci := 9) (C := "SecretRowsModel") (T := T_Ref) (N := 36) rfl (k := 29) (by decide) (hts _ kw_549) (fun _ h9 => h9) hr_16 dRef_read_52 ?_
      refine lv_aload_n hx hb dRef_read_55 rfl (lv_at hl 1 rfl) ?_
      replace hf := g_bd hf
      obtain ⟨v_17, hv_17, hf⟩ := hf
      refine g_getI hx hb hts in_Ref hown hK hW (ci := 9) (C := "SecretRowsModel") (T := T_Ref) (N := 36) rfl (k := 6) (by decide) (hts _ kw_526) (fun _ h9 => h9) hv_17 dRef_read_56 ?_
      refine lv_aload_n hx hb dRef_read_59 rfl (lv_at hl 1 rfl) ?_
      replace hf := g_bd hf
      obtain ⟨v_18, hv_18, hf⟩ := hf
      refine g_getI hx hb hts in_Ref hown hK hW (ci := 9) (C := "SecretRowsModel") (T := T_Ref) (N := 36) rfl (k := 1) (by decide) (hts _ kw_521) (fun _ h9 => h9) hv_18 dRef_read_60 ?_
      replace hf := g_bd hf
      obtain ⟨a_19, ea_19, hf⟩ := hf
      subst ea_19
      refine W.eq (g2 := F0 m 63 _ [.int v_18, .int v_17, .ref a_19]) rfl ?_
      replace hf := g_bd hf
      obtain ⟨z_20, hz_20, hf⟩ := hf
      refine g_ast_i hx hb hW hS hz_20 dRef_read_63 (fun H locs hW hS => ?_)
      refine lv_aload_n hx hb dRef_read_64 rfl (lv_at hl 1 rfl) ?_
      refine lv_dup hx hb dRef_read_65 rfl ?_
      replace hf := g_bd hf
      obtain ⟨v_21, hv_21, hf⟩ := hf
      refine g_getI hx hb hts in_Ref hown hK hW (ci := 9) (C := "SecretRowsModel") (T := T_Ref) (N := 36) rfl (k := 6) (by decide) (hts _ kw_526) (fun _ h9 => h9) hv_21 dRef_read_66 ?_
      refine lv_iconst (v := 1) hx hb dRef_read_69 (by decide) ?_
      refine lv_iadd hx hb dRef_read_70 ?_
      replace hf := g_bd hf
      obtain ⟨z_22, hz_22, hf⟩ := hf
      refine g_put hx hb hts in_Ref ty_Ref tyok_Ref nm_Ref hown hK hW hS (ci := 9) (C := "SecretRowsModel") (T := T_Ref) (N := 36) rfl (k := 6) (by decide) (hts _ kw_526) (fun _ h9 => h9) rfl (ty := .int) (by decide +kernel) rfl rfl hz_22 dRef_read_71 (fun H locs hW hS => ?_)
      exact bRef_read_74 C n a0 i3 v_4 _ _ _ _ hf hW hS (lv_sub hl [1, 4, 0] rfl)
  · replace hf := g_it c_5 hf
    refine lv_iconst (v := (-1)) hx hb dRef_read_19 (by decide) ?_
    cases hf
    exact g_reti hx hb hr hlocks hW hS (Nat.le_of_ble_eq_true rfl) (Nat.le_of_ble_eq_true rfl) dRef_read_20

def fRef_audit (n : Nat) (a0 : Nat) (i1 : Int32) (i2 : Int32) (z : gS) : Option (Int32 × gS) :=
    (g_pF z a0 9 0 (.int 0)).bind fun z_1 =>
    if i1 < 0 then (
    some ((-1), z_1))
    else (
    (g_fI z_1 a0 9 6).bind fun v_3 =>
    if i1 < v_3 then (
    if i2 = 0 then (
    (g_fR z_1 a0 9 27).bind fun r_14 =>
    r_14.bind fun a_15 =>
    (g_ldI z_1 .int a_15 i1).bind fun v_16 =>
    some (v_16, z_1))
    else (
    if i2 = 1 then (
    (g_fR z_1 a0 9 28).bind fun r_11 =>
    r_11.bind fun a_12 =>
    (g_ldI z_1 .int a_12 i1).bind fun v_13 =>
    some (v_13, z_1))
    else (
    if i2 = 2 then (
    (g_fR z_1 a0 9 29).bind fun r_8 =>
    r_8.bind fun a_9 =>
    (g_ldI z_1 .int a_9 i1).bind fun v_10 =>
    some (v_10, z_1))
    else (
    some ((-1), z_1)))))
    else (
    some ((-1), z_1)))
set_option maxHeartbeats 4000000 in
set_option maxRecDepth 100000 in
theorem mRef_audit (l : Launch) (D : va_G) (A : Nat → Prop) (n : Nat) (z z' : gS) (a0 : Nat) (i1 : Int32) (i2 : Int32) (r : Int32) (hf : fRef_audit n a0 i1 i2 z = some (r, z')) : Met l yRef_audit wsRef_audit ({ frames := 0, cells := 0, slots := 0, locals := 0 }) (g_P D vwCl gNN gOO A z [.ref a0, .int i1, .int i2]) (g_Qi D vwCl A r z') 0 0 A := by
  refine Met.ofW (cc := cRef_audit) (maxL := 3) (ret := (some .int)) (by decide) rfl ?_
  intro p e s m args below meth c s₁ B hml hv
  obtain ⟨rfl, hW, hK, hA0⟩ := hv
  have C : g_C p s m meth c _ cRef_audit 3 (some .int) "SecretRowsModel" gW D vwCl gNN gOO A := ⟨B.exec, B.bytes, B.returns, hml, findClass_of_methodNamed B.named, fun w hw => atoms_spec (ws := wsRef_audit) B.pre w (List.mem_cons_of_mem _ hw), B.notSynchronized, hK, fun q hq => hA0 q (by rw [← hW.1]; exact hq)⟩
  have hS : va_S A s.heap s.heap [] := va_S.rf
  have hl := lv_entry ([.ref a0, .int i1, .int i2]) (n := 3) (Nat.le_of_ble_eq_true rfl)
  rw [lg_entry_eq]
  generalize (lg_sl ([.ref a0, .int i1, .int i2]) ++ List.replicate (3 - (lg_sl ([.ref a0, .int i1, .int i2])).length) Slot.unset).toArray = ls at hl ⊢
  have hl : lv_has ls 3 [(0, .ref a0), (1, .int i1), (2, .int i2)] := hl
  obtain ⟨hx, hb, hr, hml, hown, hts, hlocks, hK, hA⟩ := id C
  unfold fRef_audit at hf
  refine lv_aload_n hx hb dRef_audit_0 rfl (lv_at hl 0 rfl) ?_
  refine lv_iconst (v := 0) hx hb dRef_audit_1 (by decide) ?_
  replace hf := g_bd hf
  obtain ⟨z_1, hz_1, hf⟩ := hf
  refine g_put hx hb hts in_Ref ty_Ref tyok_Ref nm_Ref hown hK hW hS (ci := 9) (C := "SecretRowsModel") (T := T_Ref) (N := 36) rfl (k := 0) (by decide) (hts _ kw_520) (fun _ h9 => h9) rfl (ty := .int) (by decide +kernel) rfl rfl hz_1 dRef_audit_2 (fun H locs hW hS => ?_)
  refine lv_iload_n hx hb dRef_audit_5 rfl (lv_at hl 1 rfl) ?_
  refine lv_if_lt (tgt := 17) hx hb dRef_audit_6 (by decide) (fun c_2 => ?_) (fun c_2 => ?_)
  · replace hf := g_it c_2 hf
    refine lv_iconst (v := (-1)) hx hb dRef_audit_17 (by decide) ?_
    cases hf
    exact g_reti hx hb hr hlocks hW hS (Nat.le_of_ble_eq_true rfl) (Nat.le_of_ble_eq_true rfl) dRef_audit_18
  · replace hf := g_if c_2 hf
    refine lv_iload_n hx hb dRef_audit_9 rfl (lv_at hl 1 rfl) ?_
    refine lv_aload_n hx hb dRef_audit_10 rfl (lv_at hl 0 rfl) ?_
    replace hf := g_bd hf
    obtain ⟨v_3, hv_3, hf⟩ := hf
    refine g_getI hx hb hts in_Ref hown hK hW (ci := 9) (C := "SecretRowsModel") (T := T_Ref) (N := 36) rfl (k := 6) (by decide) (hts _ kw_526) (fun _ h9 => h9) hv_3 dRef_audit_11 ?_
    refine lv_icmp_lt (tgt := 19) hx hb dRef_audit_14 (by decide) (fun c_4 => ?_) (fun c_4 => ?_)
    · replace hf := g_it c_4 hf
      refine lv_iload_n hx hb dRef_audit_19 rfl (lv_at hl 2 rfl) ?_
      refine lv_if_ne (tgt := 32) hx hb dRef_audit_20 (by decide) (fun c_5 => ?_) (fun c_5 => ?_)
      · replace hf := g_if c_5 hf
        refine lv_iload_n hx hb dRef_audit_32 rfl (lv_at hl 2 rfl) ?_
        refine lv_iconst (v := 1) hx hb dRef_audit_33 (by decide) ?_
        refine lv_icmp_ne (tgt := 46) hx hb dRef_audit_34 (by decide) (fun c_6 => ?_) (fun c_6 => ?_)
        · replace hf := g_if c_6 hf
          refine lv_iload_n hx hb dRef_audit_46 rfl (lv_at hl 2 rfl) ?_
          refine lv_iconst (v := 2) hx hb dRef_audit_47 (by decide) ?_
          refine lv_icmp_ne (tgt := 60) hx hb dRef_audit_48 (by decide) (fun c_7 => ?_) (fun c_7 => ?_)
          · replace hf := g_if c_7 hf
            refine lv_iconst (v := (-1)) hx hb dRef_audit_60 (by decide) ?_
            cases hf
            exact g_reti hx hb hr hlocks hW hS (Nat.le_of_ble_eq_true rfl) (Nat.le_of_ble_eq_true rfl) dRef_audit_61
          · replace hf := g_it c_7 hf
            refine lv_aload_n hx hb dRef_audit_51 rfl (lv_at hl 0 rfl) ?_
            replace hf := g_bd hf
            obtain ⟨r_8, hr_8, hf⟩ := hf
            refine g_getR hx hb hts in_Ref hown hK hW (ci := 9) (C := "SecretRowsModel") (T := T_Ref) (N := 36) rfl (k := 29) (by decide) (hts _ kw_549) (fun _ h9 => h9) hr_8 dRef_audit_52 ?_
            refine lv_iload_n hx hb dRef_audit_55 rfl (lv_at hl 1 rfl) ?_
            replace hf := g_bd hf
            obtain ⟨a_9, ea_9, hf⟩ := hf
            subst ea_9
            refine W.eq (g2 := F0 m 56 _ [.int i1, .ref a_9]) rfl ?_
            replace hf := g_bd hf
            obtain ⟨v_10, hv_10, hf⟩ := hf
            refine g_ald_i hx hb hK hW hv_10 dRef_audit_56 ?_
            refine lv_goto (tgt := 61) hx hb dRef_audit_57 (by decide) ?_
            cases hf
            exact g_reti hx hb hr hlocks hW hS (Nat.le_of_ble_eq_true rfl) (Nat.le_of_ble_eq_true rfl) dRef_audit_61
        · replace hf := g_it c_6 hf
          refine lv_aload_n hx hb dRef_audit_37 rfl (lv_at hl 0 rfl) ?_
          replace hf := g_bd hf
          obtain ⟨r_11, hr_11, hf⟩ := hf
          refine g_getR hx hb hts in_Ref hown hK hW (ci := 9) (C := "SecretRowsModel") (T := T_Ref) (N := 36) rfl (k := 28) (by decide) (hts _ kw_548) (fun _ h9 => h9) hr_11 dRef_audit_38 ?_
          refine lv_iload_n hx hb dRef_audit_41 rfl (lv_at hl 1 rfl) ?_
          replace hf := g_bd hf
          obtain ⟨a_12, ea_12, hf⟩ := hf
          subst ea_12
          refine W.eq (g2 := F0 m 42 _ [.int i1, .ref a_12]) rfl ?_
          replace hf := g_bd hf
          obtain ⟨v_13, hv_13, hf⟩ := hf
          refine g_ald_i hx hb hK hW hv_13 dRef_audit_42 ?_
          refine lv_goto (tgt := 61) hx hb dRef_audit_43 (by decide) ?_
          cases hf
          exact g_reti hx hb hr hlocks hW hS (Nat.le_of_ble_eq_true rfl) (Nat.le_of_ble_eq_true rfl) dRef_audit_61
      · replace hf := g_it c_5 hf
        refine lv_aload_n hx hb dRef_audit_23 rfl (lv_at hl 0 rfl) ?_
        replace hf := g_bd hf
        obtain ⟨r_14, hr_14, hf⟩ := hf
        refine g_getR hx hb hts in_Ref hown hK hW (ci := 9) (C := "SecretRowsModel") (T := T_Ref) (N := 36) rfl (k := 27) (by decide) (hts _ kw_547) (fun _ h9 => h9) hr_14 dRef_audit_24 ?_
        refine lv_iload_n hx hb dRef_audit_27 rfl (lv_at hl 1 rfl) ?_
        replace hf := g_bd hf
        obtain ⟨a_15, ea_15, hf⟩ := hf
        subst ea_15
        refine W.eq (g2 := F0 m 28 _ [.int i1, .ref a_15]) rfl ?_
        replace hf := g_bd hf
        obtain ⟨v_16, hv_16, hf⟩ := hf
        refine g_ald_i hx hb hK hW hv_16 dRef_audit_28 ?_
        refine lv_goto (tgt := 61) hx hb dRef_audit_29 (by decide) ?_
        cases hf
        exact g_reti hx hb hr hlocks hW hS (Nat.le_of_ble_eq_true rfl) (Nat.le_of_ble_eq_true rfl) dRef_audit_61
    · replace hf := g_if c_4 hf
      refine lv_iconst (v := (-1)) hx hb dRef_audit_17 (by decide) ?_
      cases hf
      exact g_reti hx hb hr hlocks hW hS (Nat.le_of_ble_eq_true rfl) (Nat.le_of_ble_eq_true rfl) dRef_audit_18
