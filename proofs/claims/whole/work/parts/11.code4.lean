theorem dForms_textOf_0 : decode cForms_textOf 0 = .ok (.aload_n 0, 1) := by decide +kernel
theorem dForms_textOf_1 : decode cForms_textOf 1 = .ok (.iload_n 1, 1) := by decide +kernel
theorem dForms_textOf_2 : decode cForms_textOf 2 = .ok (.invokevirtual 47, 3) := by decide +kernel
theorem dForms_textOf_5 : decode cForms_textOf 5 = .ok (.ifCond .eq 12, 3) := by decide +kernel
theorem dForms_textOf_8 : decode cForms_textOf 8 = .ok (.aload_n 0, 1) := by decide +kernel
theorem dForms_textOf_9 : decode cForms_textOf 9 = .ok (.getfield 11, 3) := by decide +kernel
theorem dForms_textOf_12 : decode cForms_textOf 12 = .ok (.iload_n 1, 1) := by decide +kernel
theorem dForms_textOf_13 : decode cForms_textOf 13 = .ok (.aaload, 1) := by decide +kernel
theorem dForms_textOf_14 : decode cForms_textOf 14 = .ok (.goto 4, 3) := by decide +kernel
theorem dForms_textOf_17 : decode cForms_textOf 17 = .ok (.aconst_null, 1) := by decide +kernel
theorem dForms_textOf_18 : decode cForms_textOf 18 = .ok (.areturn, 1) := by decide +kernel
theorem dForms_mayCome_0 : decode cForms_mayCome 0 = .ok (.aload_n 1, 1) := by decide +kernel
theorem dForms_mayCome_1 : decode cForms_mayCome 1 = .ok (.invokevirtual 55, 3) := by decide +kernel
theorem dForms_mayCome_4 : decode cForms_mayCome 4 = .ok (.iload_n 2, 1) := by decide +kernel
theorem dForms_mayCome_5 : decode cForms_mayCome 5 = .ok (.isub, 1) := by decide +kernel
theorem dForms_mayCome_6 : decode cForms_mayCome 6 = .ok (.istore_n 3, 1) := by decide +kernel
theorem dForms_mayCome_7 : decode cForms_mayCome 7 = .ok (.iconst 0, 1) := by decide +kernel
theorem dForms_mayCome_8 : decode cForms_mayCome 8 = .ok (.istore 4, 2) := by decide +kernel
theorem dForms_mayCome_10 : decode cForms_mayCome 10 = .ok (.iload 4, 2) := by decide +kernel
theorem dForms_mayCome_12 : decode cForms_mayCome 12 = .ok (.aload_n 0, 1) := by decide +kernel
theorem dForms_mayCome_13 : decode cForms_mayCome 13 = .ok (.getfield 27, 3) := by decide +kernel
theorem dForms_mayCome_16 : decode cForms_mayCome 16 = .ok (.if_icmp .ge 43, 3) := by decide +kernel
theorem dForms_mayCome_19 : decode cForms_mayCome 19 = .ok (.aload_n 0, 1) := by decide +kernel
theorem dForms_mayCome_20 : decode cForms_mayCome 20 = .ok (.iload 4, 2) := by decide +kernel
theorem dForms_mayCome_22 : decode cForms_mayCome 22 = .ok (.invokevirtual 51, 3) := by decide +kernel
theorem dForms_mayCome_25 : decode cForms_mayCome 25 = .ok (.astore 5, 2) := by decide +kernel
theorem dForms_mayCome_27 : decode cForms_mayCome 27 = .ok (.aload 5, 2) := by decide +kernel
theorem dForms_mayCome_29 : decode cForms_mayCome 29 = .ok (.ifnull 24, 3) := by decide +kernel
theorem dForms_mayCome_32 : decode cForms_mayCome 32 = .ok (.aload 5, 2) := by decide +kernel
theorem dForms_mayCome_34 : decode cForms_mayCome 34 = .ok (.invokevirtual 55, 3) := by decide +kernel
theorem dForms_mayCome_37 : decode cForms_mayCome 37 = .ok (.iload_n 3, 1) := by decide +kernel
theorem dForms_mayCome_38 : decode cForms_mayCome 38 = .ok (.if_icmp .le 15, 3) := by decide +kernel
theorem dForms_mayCome_41 : decode cForms_mayCome 41 = .ok (.aload 5, 2) := by decide +kernel
theorem dForms_mayCome_43 : decode cForms_mayCome 43 = .ok (.aload_n 1, 1) := by decide +kernel
theorem dForms_mayCome_44 : decode cForms_mayCome 44 = .ok (.iload_n 2, 1) := by decide +kernel
theorem dForms_mayCome_45 : decode cForms_mayCome 45 = .ok (.invokevirtual 59, 3) := by decide +kernel
theorem dForms_mayCome_48 : decode cForms_mayCome 48 = .ok (.ifCond .eq 5, 3) := by decide +kernel
theorem dForms_mayCome_51 : decode cForms_mayCome 51 = .ok (.iconst 1, 1) := by decide +kernel
theorem dForms_mayCome_52 : decode cForms_mayCome 52 = .ok (.ireturn, 1) := by decide +kernel
theorem dForms_mayCome_53 : decode cForms_mayCome 53 = .ok (.iinc 4 1, 3) := by decide +kernel
theorem dForms_mayCome_56 : decode cForms_mayCome 56 = .ok (.goto (-46), 3) := by decide +kernel
theorem dForms_mayCome_59 : decode cForms_mayCome 59 = .ok (.iconst 0, 1) := by decide +kernel
theorem dForms_mayCome_60 : decode cForms_mayCome 60 = .ok (.ireturn, 1) := by decide +kernel
theorem dForms_longestWhole_0 : decode cForms_longestWhole 0 = .ok (.aload_n 1, 1) := by decide +kernel
theorem dForms_longestWhole_1 : decode cForms_longestWhole 1 = .ok (.invokevirtual 55, 3) := by decide +kernel
theorem dForms_longestWhole_4 : decode cForms_longestWhole 4 = .ok (.iload_n 2, 1) := by decide +kernel
theorem dForms_longestWhole_5 : decode cForms_longestWhole 5 = .ok (.isub, 1) := by decide +kernel
theorem dForms_longestWhole_6 : decode cForms_longestWhole 6 = .ok (.istore_n 3, 1) := by decide +kernel
theorem dForms_longestWhole_7 : decode cForms_longestWhole 7 = .ok (.iconst (-1), 1) := by decide +kernel
theorem dForms_longestWhole_8 : decode cForms_longestWhole 8 = .ok (.istore 4, 2) := by decide +kernel
theorem dForms_longestWhole_10 : decode cForms_longestWhole 10 = .ok (.iconst 0, 1) := by decide +kernel
theorem dForms_longestWhole_11 : decode cForms_longestWhole 11 = .ok (.istore 5, 2) := by decide +kernel
theorem dForms_longestWhole_13 : decode cForms_longestWhole 13 = .ok (.iconst 0, 1) := by decide +kernel
theorem dForms_longestWhole_14 : decode cForms_longestWhole 14 = .ok (.istore 6, 2) := by decide +kernel
theorem dForms_longestWhole_16 : decode cForms_longestWhole 16 = .ok (.iload 6, 2) := by decide +kernel
theorem dForms_longestWhole_18 : decode cForms_longestWhole 18 = .ok (.aload_n 0, 1) := by decide +kernel
theorem dForms_longestWhole_19 : decode cForms_longestWhole 19 = .ok (.getfield 27, 3) := by decide +kernel
theorem dForms_longestWhole_22 : decode cForms_longestWhole 22 = .ok (.if_icmp .ge 62, 3) := by decide +kernel
theorem dForms_longestWhole_25 : decode cForms_longestWhole 25 = .ok (.aload_n 0, 1) := by decide +kernel
theorem dForms_longestWhole_26 : decode cForms_longestWhole 26 = .ok (.iload 6, 2) := by decide +kernel
theorem dForms_longestWhole_28 : decode cForms_longestWhole 28 = .ok (.invokevirtual 51, 3) := by decide +kernel
theorem dForms_longestWhole_31 : decode cForms_longestWhole 31 = .ok (.astore 7, 2) := by decide +kernel
theorem dForms_longestWhole_33 : decode cForms_longestWhole 33 = .ok (.aload 7, 2) := by decide +kernel
theorem dForms_longestWhole_35 : decode cForms_longestWhole 35 = .ok (.ifnull 43, 3) := by decide +kernel
theorem dForms_longestWhole_38 : decode cForms_longestWhole 38 = .ok (.aload 7, 2) := by decide +kernel
theorem dForms_longestWhole_40 : decode cForms_longestWhole 40 = .ok (.invokevirtual 55, 3) := by decide +kernel
theorem dForms_longestWhole_43 : decode cForms_longestWhole 43 = .ok (.iload 5, 2) := by decide +kernel
theorem dForms_longestWhole_45 : decode cForms_longestWhole 45 = .ok (.if_icmp .le 33, 3) := by decide +kernel
theorem dForms_longestWhole_48 : decode cForms_longestWhole 48 = .ok (.aload 7, 2) := by decide +kernel
theorem dForms_longestWhole_50 : decode cForms_longestWhole 50 = .ok (.invokevirtual 55, 3) := by decide +kernel
theorem dForms_longestWhole_53 : decode cForms_longestWhole 53 = .ok (.iload_n 3, 1) := by decide +kernel
theorem dForms_longestWhole_54 : decode cForms_longestWhole 54 = .ok (.if_icmp .gt 24, 3) := by decide +kernel
theorem dForms_longestWhole_57 : decode cForms_longestWhole 57 = .ok (.aload 7, 2) := by decide +kernel
theorem dForms_longestWhole_59 : decode cForms_longestWhole 59 = .ok (.aload_n 1, 1) := by decide +kernel
theorem dForms_longestWhole_60 : decode cForms_longestWhole 60 = .ok (.iload_n 2, 1) := by decide +kernel
theorem dForms_longestWhole_61 : decode cForms_longestWhole 61 = .ok (.invokevirtual 59, 3) := by decide +kernel
theorem dForms_longestWhole_64 : decode cForms_longestWhole 64 = .ok (.ifCond .eq 14, 3) := by decide +kernel
theorem dForms_longestWhole_67 : decode cForms_longestWhole 67 = .ok (.iload 6, 2) := by decide +kernel
theorem dForms_longestWhole_69 : decode cForms_longestWhole 69 = .ok (.istore 4, 2) := by decide +kernel
theorem dForms_longestWhole_71 : decode cForms_longestWhole 71 = .ok (.aload 7, 2) := by decide +kernel
theorem dForms_longestWhole_73 : decode cForms_longestWhole 73 = .ok (.invokevirtual 55, 3) := by decide +kernel
theorem dForms_longestWhole_76 : decode cForms_longestWhole 76 = .ok (.istore 5, 2) := by decide +kernel
theorem dForms_longestWhole_78 : decode cForms_longestWhole 78 = .ok (.iinc 6 1, 3) := by decide +kernel
theorem dForms_longestWhole_81 : decode cForms_longestWhole 81 = .ok (.goto (-65), 3) := by decide +kernel
theorem dForms_longestWhole_84 : decode cForms_longestWhole 84 = .ok (.iload 4, 2) := by decide +kernel
theorem dForms_longestWhole_86 : decode cForms_longestWhole 86 = .ok (.ireturn, 1) := by decide +kernel
theorem dLog_tellStars_0 : decode cLog_tellStars 0 = .ok (.iconst 0, 1) := by decide +kernel
theorem dLog_tellStars_1 : decode cLog_tellStars 1 = .ok (.istore_n 1, 1) := by decide +kernel
theorem dLog_tellStars_2 : decode cLog_tellStars 2 = .ok (.iload_n 1, 1) := by decide +kernel
theorem dLog_tellStars_3 : decode cLog_tellStars 3 = .ok (.iconst 3, 1) := by decide +kernel
theorem dLog_tellStars_4 : decode cLog_tellStars 4 = .ok (.if_icmp .ge 19, 3) := by decide +kernel
theorem dLog_tellStars_7 : decode cLog_tellStars 7 = .ok (.aload_n 0, 1) := by decide +kernel
theorem dLog_tellStars_8 : decode cLog_tellStars 8 = .ok (.getfield 20, 3) := by decide +kernel
theorem dLog_tellStars_11 : decode cLog_tellStars 11 = .ok (.bipush 42, 2) := by decide +kernel
theorem dLog_tellStars_13 : decode cLog_tellStars 13 = .ok (.invokevirtual 57, 3) := by decide +kernel
theorem dLog_tellStars_16 : decode cLog_tellStars 16 = .ok (.pop, 1) := by decide +kernel
theorem dLog_tellStars_17 : decode cLog_tellStars 17 = .ok (.iinc 1 1, 3) := by decide +kernel
theorem dLog_tellStars_20 : decode cLog_tellStars 20 = .ok (.goto (-18), 3) := by decide +kernel
theorem dLog_tellStars_23 : decode cLog_tellStars 23 = .ok (.return_, 1) := by decide +kernel
theorem dForms_lengthOf_0 : decode cForms_lengthOf 0 = .ok (.aload_n 0, 1) := by decide +kernel
theorem dForms_lengthOf_1 : decode cForms_lengthOf 1 = .ok (.iload_n 1, 1) := by decide +kernel
theorem dForms_lengthOf_2 : decode cForms_lengthOf 2 = .ok (.invokevirtual 51, 3) := by decide +kernel
theorem dForms_lengthOf_5 : decode cForms_lengthOf 5 = .ok (.astore_n 2, 1) := by decide +kernel
theorem dForms_lengthOf_6 : decode cForms_lengthOf 6 = .ok (.aload_n 2, 1) := by decide +kernel
theorem dForms_lengthOf_7 : decode cForms_lengthOf 7 = .ok (.ifnonnull 7, 3) := by decide +kernel
theorem dForms_lengthOf_10 : decode cForms_lengthOf 10 = .ok (.iconst 0, 1) := by decide +kernel
theorem dForms_lengthOf_11 : decode cForms_lengthOf 11 = .ok (.goto 7, 3) := by decide +kernel
theorem dForms_lengthOf_14 : decode cForms_lengthOf 14 = .ok (.aload_n 2, 1) := by decide +kernel
theorem dForms_lengthOf_15 : decode cForms_lengthOf 15 = .ok (.invokevirtual 55, 3) := by decide +kernel
theorem dForms_lengthOf_18 : decode cForms_lengthOf 18 = .ok (.ireturn, 1) := by decide +kernel
theorem dLog_cover_0 : decode cLog_cover 0 = .ok (.iconst 0, 1) := by decide +kernel
theorem dLog_cover_1 : decode cLog_cover 1 = .ok (.istore_n 3, 1) := by decide +kernel
theorem dLog_cover_2 : decode cLog_cover 2 = .ok (.iload_n 3, 1) := by decide +kernel
theorem dLog_cover_3 : decode cLog_cover 3 = .ok (.sipush 300, 3) := by decide +kernel
theorem dLog_cover_6 : decode cLog_cover 6 = .ok (.if_icmp .ge 124, 3) := by decide +kernel
theorem dLog_cover_9 : decode cLog_cover 9 = .ok (.aload_n 0, 1) := by decide +kernel
theorem dLog_cover_10 : decode cLog_cover 10 = .ok (.getfield 31, 3) := by decide +kernel
theorem dLog_cover_13 : decode cLog_cover 13 = .ok (.aload_n 0, 1) := by decide +kernel
theorem dLog_cover_14 : decode cLog_cover 14 = .ok (.getfield 14, 3) := by decide +kernel
theorem dLog_cover_17 : decode cLog_cover 17 = .ok (.invokevirtual 27, 3) := by decide +kernel
theorem dLog_cover_20 : decode cLog_cover 20 = .ok (.if_icmp .ge 110, 3) := by decide +kernel
theorem dLog_cover_23 : decode cLog_cover 23 = .ok (.iload_n 2, 1) := by decide +kernel
theorem dLog_cover_24 : decode cLog_cover 24 = .ok (.ifCond .ne 19, 3) := by decide +kernel
theorem dLog_cover_27 : decode cLog_cover 27 = .ok (.aload_n 1, 1) := by decide +kernel
theorem dLog_cover_28 : decode cLog_cover 28 = .ok (.aload_n 0, 1) := by decide +kernel
theorem dLog_cover_29 : decode cLog_cover 29 = .ok (.getfield 14, 3) := by decide +kernel
theorem dLog_cover_32 : decode cLog_cover 32 = .ok (.aload_n 0, 1) := by decide +kernel
theorem dLog_cover_33 : decode cLog_cover 33 = .ok (.getfield 31, 3) := by decide +kernel
theorem dLog_cover_36 : decode cLog_cover 36 = .ok (.invokevirtual 43, 3) := by decide +kernel
theorem dLog_cover_39 : decode cLog_cover 39 = .ok (.ifCond .eq 4, 3) := by decide +kernel
theorem dLog_cover_42 : decode cLog_cover 42 = .ok (.return_, 1) := by decide +kernel
theorem dLog_cover_43 : decode cLog_cover 43 = .ok (.aload_n 1, 1) := by decide +kernel
theorem dLog_cover_44 : decode cLog_cover 44 = .ok (.aload_n 0, 1) := by decide +kernel
theorem dLog_cover_45 : decode cLog_cover 45 = .ok (.getfield 14, 3) := by decide +kernel
theorem dLog_cover_48 : decode cLog_cover 48 = .ok (.aload_n 0, 1) := by decide +kernel
theorem dLog_cover_49 : decode cLog_cover 49 = .ok (.getfield 31, 3) := by decide +kernel
theorem dLog_cover_52 : decode cLog_cover 52 = .ok (.invokevirtual 49, 3) := by decide +kernel
theorem dLog_cover_55 : decode cLog_cover 55 = .ok (.istore 4, 2) := by decide +kernel
theorem dLog_cover_57 : decode cLog_cover 57 = .ok (.iload 4, 2) := by decide +kernel
theorem dLog_cover_59 : decode cLog_cover 59 = .ok (.iconst (-1), 1) := by decide +kernel
theorem dLog_cover_60 : decode cLog_cover 60 = .ok (.if_icmp .ne 35, 3) := by decide +kernel
theorem dLog_cover_63 : decode cLog_cover 63 = .ok (.aload_n 0, 1) := by decide +kernel
theorem dLog_cover_64 : decode cLog_cover 64 = .ok (.getfield 20, 3) := by decide +kernel
theorem dLog_cover_67 : decode cLog_cover 67 = .ok (.aload_n 0, 1) := by decide +kernel
theorem dLog_cover_68 : decode cLog_cover 68 = .ok (.getfield 14, 3) := by decide +kernel
theorem dLog_cover_71 : decode cLog_cover 71 = .ok (.aload_n 0, 1) := by decide +kernel
theorem dLog_cover_72 : decode cLog_cover 72 = .ok (.getfield 31, 3) := by decide +kernel
theorem dLog_cover_75 : decode cLog_cover 75 = .ok (.invokevirtual 53, 3) := by decide +kernel
theorem dLog_cover_78 : decode cLog_cover 78 = .ok (.invokevirtual 57, 3) := by decide +kernel
theorem dLog_cover_81 : decode cLog_cover 81 = .ok (.pop, 1) := by decide +kernel
theorem dLog_cover_82 : decode cLog_cover 82 = .ok (.aload_n 0, 1) := by decide +kernel
theorem dLog_cover_83 : decode cLog_cover 83 = .ok (.dup, 1) := by decide +kernel
theorem dLog_cover_84 : decode cLog_cover 84 = .ok (.getfield 31, 3) := by decide +kernel
theorem dLog_cover_87 : decode cLog_cover 87 = .ok (.iconst 1, 1) := by decide +kernel
theorem dLog_cover_88 : decode cLog_cover 88 = .ok (.iadd, 1) := by decide +kernel
theorem dLog_cover_89 : decode cLog_cover 89 = .ok (.putfield 31, 3) := by decide +kernel
theorem dLog_cover_92 : decode cLog_cover 92 = .ok (.goto 32, 3) := by decide +kernel
theorem dLog_cover_95 : decode cLog_cover 95 = .ok (.aload_n 0, 1) := by decide +kernel
theorem dLog_cover_96 : decode cLog_cover 96 = .ok (.invokevirtual 61, 3) := by decide +kernel
theorem dLog_cover_99 : decode cLog_cover 99 = .ok (.aload_n 0, 1) := by decide +kernel
theorem dLog_cover_100 : decode cLog_cover 100 = .ok (.dup, 1) := by decide +kernel
theorem dLog_cover_101 : decode cLog_cover 101 = .ok (.getfield 31, 3) := by decide +kernel
theorem dLog_cover_104 : decode cLog_cover 104 = .ok (.aload_n 1, 1) := by decide +kernel
theorem dLog_cover_105 : decode cLog_cover 105 = .ok (.iload 4, 2) := by decide +kernel
theorem dLog_cover_107 : decode cLog_cover 107 = .ok (.invokevirtual 64, 3) := by decide +kernel
theorem dLog_cover_110 : decode cLog_cover 110 = .ok (.iadd, 1) := by decide +kernel
theorem dLog_cover_111 : decode cLog_cover 111 = .ok (.putfield 31, 3) := by decide +kernel
theorem dLog_cover_114 : decode cLog_cover 114 = .ok (.aload_n 0, 1) := by decide +kernel
theorem dLog_cover_115 : decode cLog_cover 115 = .ok (.dup, 1) := by decide +kernel
theorem dLog_cover_116 : decode cLog_cover 116 = .ok (.getfield 67, 3) := by decide +kernel
theorem dLog_cover_119 : decode cLog_cover 119 = .ok (.iconst 1, 1) := by decide +kernel
theorem dLog_cover_120 : decode cLog_cover 120 = .ok (.iadd, 1) := by decide +kernel
theorem dLog_cover_121 : decode cLog_cover 121 = .ok (.putfield 67, 3) := by decide +kernel
theorem dLog_cover_124 : decode cLog_cover 124 = .ok (.iinc 3 1, 3) := by decide +kernel
theorem dLog_cover_127 : decode cLog_cover 127 = .ok (.goto (-125), 3) := by decide +kernel
theorem dLog_cover_130 : decode cLog_cover 130 = .ok (.return_, 1) := by decide +kernel
theorem dLog_come_0 : decode cLog_come 0 = .ok (.aload_n 0, 1) := by decide +kernel
theorem dLog_come_1 : decode cLog_come 1 = .ok (.getfield 14, 3) := by decide +kernel
theorem dLog_come_4 : decode cLog_come 4 = .ok (.aload_n 1, 1) := by decide +kernel
theorem dLog_come_5 : decode cLog_come 5 = .ok (.invokevirtual 35, 3) := by decide +kernel
theorem dLog_come_8 : decode cLog_come 8 = .ok (.aload_n 0, 1) := by decide +kernel
theorem dLog_come_9 : decode cLog_come 9 = .ok (.aload_n 2, 1) := by decide +kernel
theorem dLog_come_10 : decode cLog_come 10 = .ok (.iconst 0, 1) := by decide +kernel
theorem dLog_come_11 : decode cLog_come 11 = .ok (.invokevirtual 39, 3) := by decide +kernel
theorem dLog_come_14 : decode cLog_come 14 = .ok (.return_, 1) := by decide +kernel
theorem dMain_logFromTape_0 : decode cMain_logFromTape 0 = .ok (.aload_n 1, 1) := by decide +kernel
theorem dMain_logFromTape_1 : decode cMain_logFromTape 1 = .ok (.ifnull 20, 3) := by decide +kernel
theorem dMain_logFromTape_4 : decode cMain_logFromTape 4 = .ok (.aload_n 1, 1) := by decide +kernel
theorem dMain_logFromTape_5 : decode cMain_logFromTape 5 = .ok (.getfield 132, 3) := by decide +kernel
theorem dMain_logFromTape_8 : decode cMain_logFromTape 8 = .ok (.aload_n 0, 1) := by decide +kernel
theorem dMain_logFromTape_9 : decode cMain_logFromTape 9 = .ok (.getfield 39, 3) := by decide +kernel
theorem dMain_logFromTape_12 : decode cMain_logFromTape 12 = .ok (.invokevirtual 151, 3) := by decide +kernel
theorem dMain_logFromTape_15 : decode cMain_logFromTape 15 = .ok (.invokevirtual 208, 3) := by decide +kernel
theorem dMain_logFromTape_18 : decode cMain_logFromTape 18 = .ok (.ifCond .ne 5, 3) := by decide +kernel
theorem dMain_logFromTape_21 : decode cMain_logFromTape 21 = .ok (.iconst (-1), 1) := by decide +kernel
theorem dMain_logFromTape_22 : decode cMain_logFromTape 22 = .ok (.ireturn, 1) := by decide +kernel
theorem dMain_logFromTape_23 : decode cMain_logFromTape 23 = .ok (.aload_n 0, 1) := by decide +kernel
theorem dMain_logFromTape_24 : decode cMain_logFromTape 24 = .ok (.getfield 39, 3) := by decide +kernel
theorem dMain_logFromTape_27 : decode cMain_logFromTape 27 = .ok (.invokevirtual 151, 3) := by decide +kernel
theorem dMain_logFromTape_30 : decode cMain_logFromTape 30 = .ok (.ifCond .le 22, 3) := by decide +kernel
theorem dMain_logFromTape_33 : decode cMain_logFromTape 33 = .ok (.aload_n 0, 1) := by decide +kernel
theorem dMain_logFromTape_34 : decode cMain_logFromTape 34 = .ok (.invokevirtual 141, 3) := by decide +kernel
theorem dMain_logFromTape_37 : decode cMain_logFromTape 37 = .ok (.aload_n 1, 1) := by decide +kernel
theorem dMain_logFromTape_38 : decode cMain_logFromTape 38 = .ok (.getfield 132, 3) := by decide +kernel
theorem dMain_logFromTape_41 : decode cMain_logFromTape 41 = .ok (.aload_n 0, 1) := by decide +kernel
theorem dMain_logFromTape_42 : decode cMain_logFromTape 42 = .ok (.getfield 39, 3) := by decide +kernel
theorem dMain_logFromTape_45 : decode cMain_logFromTape 45 = .ok (.aload_n 0, 1) := by decide +kernel
theorem dMain_logFromTape_46 : decode cMain_logFromTape 46 = .ok (.getfield 46, 3) := by decide +kernel
theorem dMain_logFromTape_49 : decode cMain_logFromTape 49 = .ok (.invokevirtual 211, 3) := by decide +kernel
theorem dMain_logFromTape_52 : decode cMain_logFromTape 52 = .ok (.aload_n 0, 1) := by decide +kernel
theorem dMain_logFromTape_53 : decode cMain_logFromTape 53 = .ok (.getfield 39, 3) := by decide +kernel
theorem dMain_logFromTape_56 : decode cMain_logFromTape 56 = .ok (.invokevirtual 151, 3) := by decide +kernel
theorem dMain_logFromTape_59 : decode cMain_logFromTape 59 = .ok (.ireturn, 1) := by decide +kernel
theorem dMain_log_0 : decode cMain_log 0 = .ok (.aload_n 0, 1) := by decide +kernel
theorem dMain_log_1 : decode cMain_log 1 = .ok (.aload_n 0, 1) := by decide +kernel
theorem dMain_log_2 : decode cMain_log 2 = .ok (.iload_n 1, 1) := by decide +kernel
theorem dMain_log_3 : decode cMain_log 3 = .ok (.invokevirtual 101, 3) := by decide +kernel
theorem dMain_log_6 : decode cMain_log 6 = .ok (.invokevirtual 128, 3) := by decide +kernel
theorem dMain_log_9 : decode cMain_log 9 = .ok (.istore_n 2, 1) := by decide +kernel
theorem dMain_log_10 : decode cMain_log 10 = .ok (.aload_n 0, 1) := by decide +kernel
theorem dMain_log_11 : decode cMain_log 11 = .ok (.getfield 39, 3) := by decide +kernel
theorem dMain_log_14 : decode cMain_log 14 = .ok (.invokevirtual 78, 3) := by decide +kernel
theorem dMain_log_17 : decode cMain_log 17 = .ok (.iload_n 2, 1) := by decide +kernel
theorem dMain_log_18 : decode cMain_log 18 = .ok (.ireturn, 1) := by decide +kernel
theorem dLog_end_0 : decode cLog_end 0 = .ok (.aload_n 0, 1) := by decide +kernel
theorem dLog_end_1 : decode cLog_end 1 = .ok (.aload_n 1, 1) := by decide +kernel
theorem dLog_end_2 : decode cLog_end 2 = .ok (.iconst 1, 1) := by decide +kernel
theorem dLog_end_3 : decode cLog_end 3 = .ok (.invokevirtual 39, 3) := by decide +kernel
theorem dLog_end_6 : decode cLog_end 6 = .ok (.aload_n 0, 1) := by decide +kernel
theorem dLog_end_7 : decode cLog_end 7 = .ok (.iconst 1, 1) := by decide +kernel
theorem dLog_end_8 : decode cLog_end 8 = .ok (.putfield 23, 3) := by decide +kernel
theorem dLog_end_11 : decode cLog_end 11 = .ok (.return_, 1) := by decide +kernel
theorem dMain_close_0 : decode cMain_close 0 = .ok (.aload_n 0, 1) := by decide +kernel
theorem dMain_close_1 : decode cMain_close 1 = .ok (.iload_n 1, 1) := by decide +kernel
theorem dMain_close_2 : decode cMain_close 2 = .ok (.invokevirtual 101, 3) := by decide +kernel
theorem dMain_close_5 : decode cMain_close 5 = .ok (.astore_n 2, 1) := by decide +kernel
theorem dMain_close_6 : decode cMain_close 6 = .ok (.aload_n 2, 1) := by decide +kernel
theorem dMain_close_7 : decode cMain_close 7 = .ok (.ifnull 13, 3) := by decide +kernel
theorem dMain_close_10 : decode cMain_close 10 = .ok (.aload_n 2, 1) := by decide +kernel
theorem dMain_close_11 : decode cMain_close 11 = .ok (.getfield 132, 3) := by decide +kernel
theorem dMain_close_14 : decode cMain_close 14 = .ok (.getfield 136, 3) := by decide +kernel
theorem dMain_close_17 : decode cMain_close 17 = .ok (.ifCond .eq 5, 3) := by decide +kernel
theorem dMain_close_20 : decode cMain_close 20 = .ok (.iconst (-1), 1) := by decide +kernel
theorem dMain_close_21 : decode cMain_close 21 = .ok (.ireturn, 1) := by decide +kernel
theorem dMain_close_22 : decode cMain_close 22 = .ok (.aload_n 0, 1) := by decide +kernel
theorem dMain_close_23 : decode cMain_close 23 = .ok (.invokevirtual 141, 3) := by decide +kernel
theorem dMain_close_26 : decode cMain_close 26 = .ok (.aload_n 2, 1) := by decide +kernel
theorem dMain_close_27 : decode cMain_close 27 = .ok (.getfield 132, 3) := by decide +kernel
theorem dMain_close_30 : decode cMain_close 30 = .ok (.aload_n 0, 1) := by decide +kernel
theorem dMain_close_31 : decode cMain_close 31 = .ok (.getfield 46, 3) := by decide +kernel
theorem dMain_close_34 : decode cMain_close 34 = .ok (.invokevirtual 144, 3) := by decide +kernel
theorem dMain_close_37 : decode cMain_close 37 = .ok (.aload_n 2, 1) := by decide +kernel
theorem dMain_close_38 : decode cMain_close 38 = .ok (.getfield 132, 3) := by decide +kernel
theorem dMain_close_41 : decode cMain_close 41 = .ok (.getfield 148, 3) := by decide +kernel
theorem dMain_close_44 : decode cMain_close 44 = .ok (.invokevirtual 151, 3) := by decide +kernel
theorem dMain_close_47 : decode cMain_close 47 = .ok (.ireturn, 1) := by decide +kernel
def fForms_textOf (n : Nat) (a0 : Nat) (i1 : Int32) (z : gS) : Option (Option Nat × gS) :=
    (g_is z a0 7).bind fun _ =>
    g_bp (fForms_isThere n a0 i1 z) fun v_3 z_2 =>
    if v_3 = 0 then (
    some (none, z_2))
    else (
    (g_fR z_2 a0 7 0).bind fun r_5 =>
    r_5.bind fun a_6 =>
    (g_ldR z_2 (.object "SecretRows$Text") a_6 i1).bind fun r_7 =>
    some (r_7, z_2))
set_option maxHeartbeats 4000000 in
set_option maxRecDepth 100000 in
theorem mForms_textOf (l : Launch) (D : va_G) (A : Nat → Prop) (n : Nat) (z z' : gS) (a0 : Nat) (i1 : Int32) (r : Option Nat) (hf : fForms_textOf n a0 i1 z = some (r, z')) : Met l yForms_textOf wsForms_textOf ({ frames := 1, cells := 0, slots := 0, locals := 21 }) (g_P D vwCl gNN gOO A z [.ref a0, .int i1]) (g_Qq D vwCl A r z') 0 0 A := by
  refine Met.ofW (cc := cForms_textOf) (maxL := 2) (ret := (some (.object "SecretRows$Text"))) (by decide) rfl ?_
  intro p e s m args below meth c s₁ B hml hv
  obtain ⟨rfl, hW, hK, hA0⟩ := hv
  have C : g_C p s m meth c _ cForms_textOf 2 (some (.object "SecretRows$Text")) "SecretRows$Forms" gW D vwCl gNN gOO A := ⟨B.exec, B.bytes, B.returns, hml, findClass_of_methodNamed B.named, fun w hw => atoms_spec (ws := wsForms_textOf) B.pre w (List.mem_cons_of_mem _ hw), B.notSynchronized, hK, fun q hq => hA0 q (by rw [← hW.1]; exact hq)⟩
  have hS : va_S A s.heap s.heap [] := va_S.rf
  have hl := lv_entry ([.ref a0, .int i1]) (n := 2) (Nat.le_of_ble_eq_true rfl)
  rw [lg_entry_eq]
  generalize (lg_sl ([.ref a0, .int i1]) ++ List.replicate (2 - (lg_sl ([.ref a0, .int i1])).length) Slot.unset).toArray = ls at hl ⊢
  have hl : lv_has ls 2 [(0, .ref a0), (1, .int i1)] := hl
  obtain ⟨hx, hb, hr, hml, hown, hts, hlocks, hK, hA⟩ := id C
  unfold fForms_textOf at hf
  refine lv_aload_n hx hb dForms_textOf_0 rfl (lv_at hl 0 rfl) ?_
  refine lv_iload_n hx hb dForms_textOf_1 rfl (lv_at hl 1 rfl) ?_
  replace hf := g_bd hf
  obtain ⟨_, hi_1, hf⟩ := hf
  replace hf := g_bps hf
  obtain ⟨v_3, z_2, hz_2, hf⟩ := hf
  refine g_goi (g_rV (As := [.int i1]) (rest := []) ⟨hx, hb, hml, hown, hts⟩ (mForms_isThere l D A n _ _ a0 i1 _ hz_2) (cwV 1 hts (gi_V kw_420 kw_422 ks_Forms_isThere kw_5 kw_423) rfl rfl rfl ⟨rfl, hdForms_isThere⟩ ⟨Nat.le_of_ble_eq_true rfl, Nat.le_of_ble_eq_true rfl⟩) hK hW hS hA (ci := 7) (T := T_Forms) (N := 5) rfl hi_1 rfl hl.1 rfl (Nat.le_of_ble_eq_true rfl) dForms_textOf_2 ⟨Nat.le_of_ble_eq_true rfl, Nat.le_of_ble_eq_true rfl⟩) hS (fun H locs hW hS => ?_)
  refine lv_if_eq (tgt := 17) hx hb dForms_textOf_5 (by decide) (fun c_4 => ?_) (fun c_4 => ?_)
  · replace hf := g_it c_4 hf
    refine lv_null hx hb dForms_textOf_17 ?_
    cases hf
    exact g_reta (v := none) hx hb hr (Or.inl ⟨_, rfl⟩) hlocks hW hS (Nat.le_of_ble_eq_true rfl) (Nat.le_of_ble_eq_true rfl) dForms_textOf_18
  · replace hf := g_if c_4 hf
    refine lv_aload_n hx hb dForms_textOf_8 rfl (lv_at hl 0 rfl) ?_
    replace hf := g_bd hf
    obtain ⟨r_5, hr_5, hf⟩ := hf
    refine g_getR hx hb hts in_Forms hown hK hW (ci := 7) (C := "SecretRows$Forms") (T := T_Forms) (N := 5) rfl (k := 0) (by decide) (hts _ kw_65) (fun _ h9 => h9) hr_5 dForms_textOf_9 ?_
    refine lv_iload_n hx hb dForms_textOf_12 rfl (lv_at hl 1 rfl) ?_
    replace hf := g_bd hf
    obtain ⟨a_6, ea_6, hf⟩ := hf
    subst ea_6
    refine W.eq (g2 := F0 m 13 _ [.int i1, .ref a_6]) rfl ?_
    replace hf := g_bd hf
    obtain ⟨r_7, hr_7, hf⟩ := hf
    refine g_ald_r hx hb hK hW hr_7 dForms_textOf_13 ?_
    refine lv_goto (tgt := 18) hx hb dForms_textOf_14 (by decide) ?_
    cases hf
    exact g_reta (v := _) hx hb hr (Or.inl ⟨_, rfl⟩) hlocks hW hS (Nat.le_of_ble_eq_true rfl) (Nat.le_of_ble_eq_true rfl) dForms_textOf_18

def fForms_mayCome_L10 (n : Nat) : Nat → Nat → Nat → Int32 → Int32 → Int32 → gS → Option (Int32 × gS)
  | 0, _, _, _, _, _, _ => none
  | k + 1, a0b, a1b, i2b, i3b, i4b, z =>
    (g_fI z a0b 7 4).bind fun v_4 =>
    if v_4 ≤ i4b then (
    some (0, z))
    else (
    (g_is z a0b 7).bind fun _ =>
    g_bp (fForms_textOf n a0b i4b z) fun r_8 z_7 =>
    g_n r_8 (
    fForms_mayCome_L10 n k a0b a1b i2b i3b (i4b + 1) z_7) (fun a_9 =>
    (g_is z_7 a_9 0).bind fun _ =>
    g_bp (fText_length n a_9 z_7) fun v_12 z_11 =>
    if v_12 ≤ i3b then (
    fForms_mayCome_L10 n k a0b a1b i2b i3b (i4b + 1) z_11)
    else (
    (g_is z_11 a_9 0).bind fun _ =>
    g_bp (fText_agrees n a_9 a1b i2b z_11) fun v_16 z_15 =>
    if v_16 = 0 then (
    fForms_mayCome_L10 n k a0b a1b i2b i3b (i4b + 1) z_15)
    else (
    some (1, z_15)))))
set_option maxHeartbeats 4000000 in
set_option maxRecDepth 100000 in
theorem bForms_mayCome_10 {p : Program} {l : Launch} {e : Env} {s : State} {m : MethodId} {args : Array Value} {below : List Frame} {meth : Method} {c : Code} {D : va_G} {A : Nat → Prop} (C : g_C p s m meth c args cForms_mayCome 6 (some .boolean) "SecretRows$Forms" gW D vwCl gNN gOO A) (n : Nat) {r : Int32} {z' : gS} : ∀ k : Nat, ∀ (a0b : Nat) (a1b : Nat) (i2b : Int32) (i3b : Int32) (i4b : Int32) (z : gS) (H : Heap) (locs : List Loc) (ls : Array Slot), fForms_mayCome_L10 n k a0b a1b i2b i3b i4b z = some (r, z') → g_W D vwCl A z s H → va_S A s.heap H locs → lv_has ls 6 [(0, .ref a0b), (1, .ref a1b), (2, .int i2b), (3, .int i3b), (4, .int i4b)] → W p l e (headSpec wsForms_mayCome ({ frames := 2, cells := 0, slots := 0, locals := 45 })).room s m args below meth c H locs 0 0 (MQ below (g_Qi D vwCl A r z') args s 0 0 A) (F0 m 10 ls []) := by
  obtain ⟨hx, hb, hr, hml, hown, hts, hlocks, hK, hA⟩ := id C
  intro k
  induction k with
  | zero =>
    intro a0b a1b i2b i3b i4b z H locs ls hf
    have hf : (none : Option (Int32 × gS)) = some _ := hf
    cases hf
  | succ k ih =>
    intro a0b a1b i2b i3b i4b z H locs ls hf hW hS hl
    rw [fForms_mayCome_L10] at hf
    refine lv_iload hx hb dForms_mayCome_10 (lv_at hl 4 rfl) ?_
    refine lv_aload_n hx hb dForms_mayCome_12 rfl (lv_at hl 0 rfl) ?_
    replace hf := g_bd hf
    obtain ⟨v_4, hv_4, hf⟩ := hf
    refine g_getI hx hb hts in_Forms hown hK hW (ci := 7) (C := "SecretRows$Forms") (T := T_Forms) (N := 5) rfl (k := 4) (by decide) (hts _ kw_69) (fun _ h9 => h9) hv_4 dForms_mayCome_13 ?_
    refine lv_icmp_ge (tgt := 59) hx hb dForms_mayCome_16 (by decide) (fun c_5 => ?_) (fun c_5 => ?_)
    · replace hf := g_it c_5 hf
      refine lv_iconst (v := 0) hx hb dForms_mayCome_59 (by decide) ?_
      cases hf
      exact g_retz hx hb hr rfl hlocks hW hS (Nat.le_of_ble_eq_true rfl) (Nat.le_of_ble_eq_true rfl) dForms_mayCome_60
    · replace hf := g_if c_5 hf
      refine lv_aload_n hx hb dForms_mayCome_19 rfl (lv_at hl 0 rfl) ?_
      refine lv_iload hx hb dForms_mayCome_20 (lv_at hl 4 rfl) ?_
      replace hf := g_bd hf
      obtain ⟨_, hi_6, hf⟩ := hf
      replace hf := g_bps hf
      obtain ⟨r_8, z_7, hz_7, hf⟩ := hf
      refine g_goq (g_rV (As := [.int i4b]) (rest := []) ⟨hx, hb, hml, hown, hts⟩ (mForms_textOf l D A n _ _ a0b i4b _ hz_7) (cwV 1 hts (gi_V kw_416 kw_418 ks_Forms_textOf kw_5 kw_419) rfl rfl rfl ⟨rfl, hdForms_textOf⟩ ⟨Nat.le_of_ble_eq_true rfl, Nat.le_of_ble_eq_true rfl⟩) hK hW hS hA (ci := 7) (T := T_Forms) (N := 5) rfl hi_6 rfl hl.1 rfl (Nat.le_of_ble_eq_true rfl) dForms_mayCome_22 ⟨Nat.le_of_ble_eq_true rfl, Nat.le_of_ble_eq_true rfl⟩) hS (fun H locs hW hS => ?_)
      refine g_astore (lv' := [(5, va_rf r_8), (0, .ref a0b), (1, .ref a1b), (2, .int i2b), (3, .int i3b), (4, .int i4b)]) hx hb dForms_mayCome_25 hl (by decide) rfl (fun _ hl1 => ?_)
      clear hl
      have hl := hl1
      clear hl1
      refine g_aload hx hb dForms_mayCome_27 (lv_at hl 0 rfl) ?_
      cases r_8 with
      | none =>
        replace hf := g_n0 hf
        replace hl : lv_has _ 6 [(5, .null), (0, .ref a0b), (1, .ref a1b), (2, .int i2b), (3, .int i3b), (4, .int i4b)] := hl
        refine W.eq (g2 := F0 m 29 _ [.null]) rfl ?_
        refine lv_ifnullN (tgt := 53) hx hb dForms_mayCome_29 (by decide) ?_
        refine lv_iinc (v := (i4b + 1)) (lv' := [(4, .int (i4b + 1)), (5, .null), (0, .ref a0b), (1, .ref a1b), (2, .int i2b), (3, .int i3b)]) hx hb dForms_mayCome_53 hl (k := 5) rfl rfl (by decide) rfl (fun _ hl1 => ?_)
        clear hl
        have hl := hl1
        clear hl1
        refine lv_goto (tgt := 10) hx hb dForms_mayCome_56 (by decide) ?_
        exact ih a0b a1b i2b i3b (i4b + 1) _ _ _ _ hf hW hS (lv_sub hl [2, 3, 4, 5, 0] rfl)
      | some a_9 =>
        replace hf := g_n1 hf
        replace hl : lv_has _ 6 [(5, .ref a_9), (0, .ref a0b), (1, .ref a1b), (2, .int i2b), (3, .int i3b), (4, .int i4b)] := hl
        refine W.eq (g2 := F0 m 29 _ [.ref a_9]) rfl ?_
        refine lv_ifnull hx hb dForms_mayCome_29 ?_
        refine lv_aload hx hb dForms_mayCome_32 (lv_at hl 0 rfl) ?_
        replace hf := g_bd hf
        obtain ⟨_, hi_10, hf⟩ := hf
        replace hf := g_bps hf
        obtain ⟨v_12, z_11, hz_11, hf⟩ := hf
        refine g_goi (g_rV (As := []) (rest := []) ⟨hx, hb, hml, hown, hts⟩ (mText_length l D A n _ _ a_9 _ hz_11) (cwV 0 hts (gi_V kw_415 kw_184 kw_185 kw_3 kw_186) rfl rfl rfl ⟨rfl, hdText_length⟩ ⟨Nat.le_of_ble_eq_true rfl, Nat.le_of_ble_eq_true rfl⟩) hK hW hS hA (ci := 0) (T := T_Text) (N := 2) rfl hi_10 rfl hl.1 rfl (Nat.le_of_ble_eq_true rfl) dForms_mayCome_34 ⟨Nat.le_of_ble_eq_true rfl, Nat.le_of_ble_eq_true rfl⟩) hS (fun H locs hW hS => ?_)
        refine lv_iload_n hx hb dForms_mayCome_37 rfl (lv_at hl 4 rfl) ?_
        refine lv_icmp_le (tgt := 53) hx hb dForms_mayCome_38 (by decide) (fun c_13 => ?_) (fun c_13 => ?_)
        · replace hf := g_it c_13 hf
          refine lv_iinc (v := (i4b + 1)) (lv' := [(4, .int (i4b + 1)), (5, .ref a_9), (0, .ref a0b), (1, .ref a1b), (2, .int i2b), (3, .int i3b)]) hx hb dForms_mayCome_53 hl (k := 5) rfl rfl (by decide) rfl (fun _ hl1 => ?_)
          clear hl
          have hl := hl1
          clear hl1
          refine lv_goto (tgt := 10) hx hb dForms_mayCome_56 (by decide) ?_
          exact ih a0b a1b i2b i3b (i4b + 1) _ _ _ _ hf hW hS (lv_sub hl [2, 3, 4, 5, 0] rfl)
        · replace hf := g_if c_13 hf
          refine lv_aload hx hb dForms_mayCome_41 (lv_at hl 0 rfl) ?_
          refine lv_aload_n hx hb dForms_mayCome_43 rfl (lv_at hl 2 rfl) ?_
          refine lv_iload_n hx hb dForms_mayCome_44 rfl (lv_at hl 3 rfl) ?_
          replace hf := g_bd hf
          obtain ⟨_, hi_14, hf⟩ := hf
          replace hf := g_bps hf
          obtain ⟨v_16, z_15, hz_15, hf⟩ := hf
          refine g_goi (g_rV (As := [.ref a1b, .int i2b]) (rest := []) ⟨hx, hb, hml, hown, hts⟩ (mText_agrees l D A n _ _ a_9 a1b i2b _ hz_15) (cwV 2 hts (gi_V kw_424 kw_208 kw_209 kw_3 kw_210) rfl rfl rfl ⟨rfl, hdText_agrees⟩ ⟨Nat.le_of_ble_eq_true rfl, Nat.le_of_ble_eq_true rfl⟩) hK hW hS hA (ci := 0) (T := T_Text) (N := 2) rfl hi_14 rfl hl.1 rfl (Nat.le_of_ble_eq_true rfl) dForms_mayCome_45 ⟨Nat.le_of_ble_eq_true rfl, Nat.le_of_ble_eq_true rfl⟩) hS (fun H locs hW hS => ?_)
          refine lv_if_eq (tgt := 53) hx hb dForms_mayCome_48 (by decide) (fun c_17 => ?_) (fun c_17 => ?_)
          · replace hf := g_it c_17 hf
            refine lv_iinc (v := (i4b + 1)) (lv' := [(4, .int (i4b + 1)), (5, .ref a_9), (0, .ref a0b), (1, .ref a1b), (2, .int i2b), (3, .int i3b)]) hx hb dForms_mayCome_53 hl (k := 5) rfl rfl (by decide) rfl (fun _ hl1 => ?_)
            clear hl
            have hl := hl1
            clear hl1
            refine lv_goto (tgt := 10) hx hb dForms_mayCome_56 (by decide) ?_
            exact ih a0b a1b i2b i3b (i4b + 1) _ _ _ _ hf hW hS (lv_sub hl [2, 3, 4, 5, 0] rfl)
          · replace hf := g_if c_17 hf
            refine lv_iconst (v := 1) hx hb dForms_mayCome_51 (by decide) ?_
            cases hf
            exact g_retz hx hb hr rfl hlocks hW hS (Nat.le_of_ble_eq_true rfl) (Nat.le_of_ble_eq_true rfl) dForms_mayCome_52
def fForms_mayCome (n : Nat) (a0 : Nat) (a1 : Nat) (i2 : Int32) (z : gS) : Option (Int32 × gS) :=
    (g_is z a1 0).bind fun _ =>
    g_bp (fText_length n a1 z) fun v_3 z_2 =>
    fForms_mayCome_L10 n n a0 a1 i2 (v_3 - i2) 0 z_2
set_option maxHeartbeats 4000000 in
set_option maxRecDepth 100000 in
theorem mForms_mayCome (l : Launch) (D : va_G) (A : Nat → Prop) (n : Nat) (z z' : gS) (a0 : Nat) (a1 : Nat) (i2 : Int32) (r : Int32) (hf : fForms_mayCome n a0 a1 i2 z = some (r, z')) : Met l yForms_mayCome wsForms_mayCome ({ frames := 2, cells := 0, slots := 0, locals := 45 }) (g_P D vwCl gNN gOO A z [.ref a0, .ref a1, .int i2]) (g_Qi D vwCl A r z') 0 0 A := by
  refine Met.ofW (cc := cForms_mayCome) (maxL := 6) (ret := (some .boolean)) (by decide) rfl ?_
  intro p e s m args below meth c s₁ B hml hv
  obtain ⟨rfl, hW, hK, hA0⟩ := hv
  have C : g_C p s m meth c _ cForms_mayCome 6 (some .boolean) "SecretRows$Forms" gW D vwCl gNN gOO A := ⟨B.exec, B.bytes, B.returns, hml, findClass_of_methodNamed B.named, fun w hw => atoms_spec (ws := wsForms_mayCome) B.pre w (List.mem_cons_of_mem _ hw), B.notSynchronized, hK, fun q hq => hA0 q (by rw [← hW.1]; exact hq)⟩
  have hS : va_S A s.heap s.heap [] := va_S.rf
  have hl := lv_entry ([.ref a0, .ref a1, .int i2]) (n := 6) (Nat.le_of_ble_eq_true rfl)
  rw [lg_entry_eq]
  generalize (lg_sl ([.ref a0, .ref a1, .int i2]) ++ List.replicate (6 - (lg_sl ([.ref a0, .ref a1, .int i2])).length) Slot.unset).toArray = ls at hl ⊢
  have hl : lv_has ls 6 [(0, .ref a0), (1, .ref a1), (2, .int i2)] := hl
  obtain ⟨hx, hb, hr, hml, hown, hts, hlocks, hK, hA⟩ := id C
  unfold fForms_mayCome at hf
  refine lv_aload_n hx hb dForms_mayCome_0 rfl (lv_at hl 1 rfl) ?_
  replace hf := g_bd hf
  obtain ⟨_, hi_1, hf⟩ := hf
  replace hf := g_bps hf
  obtain ⟨v_3, z_2, hz_2, hf⟩ := hf
  refine g_goi (g_rV (As := []) (rest := []) ⟨hx, hb, hml, hown, hts⟩ (mText_length l D A n _ _ a1 _ hz_2) (cwV 0 hts (gi_V kw_415 kw_184 kw_185 kw_3 kw_186) rfl rfl rfl ⟨rfl, hdText_length⟩ ⟨Nat.le_of_ble_eq_true rfl, Nat.le_of_ble_eq_true rfl⟩) hK hW hS hA (ci := 0) (T := T_Text) (N := 2) rfl hi_1 rfl hl.1 rfl (Nat.le_of_ble_eq_true rfl) dForms_mayCome_1 ⟨Nat.le_of_ble_eq_true rfl, Nat.le_of_ble_eq_true rfl⟩) hS (fun H locs hW hS => ?_)
  refine lv_iload_n hx hb dForms_mayCome_4 rfl (lv_at hl 2 rfl) ?_
  refine lv_isub hx hb dForms_mayCome_5 ?_
  refine lv_istore_n (lv' := [(3, .int (v_3 - i2)), (0, .ref a0), (1, .ref a1), (2, .int i2)]) hx hb dForms_mayCome_6 rfl hl (by decide) rfl (fun _ hl1 => ?_)
  clear hl
  have hl := hl1
  clear hl1
  refine lv_iconst (v := 0) hx hb dForms_mayCome_7 (by decide) ?_
  refine lv_istore (lv' := [(4, .int 0), (3, .int (v_3 - i2)), (0, .ref a0), (1, .ref a1), (2, .int i2)]) hx hb dForms_mayCome_8 hl (by decide) rfl (fun _ hl1 => ?_)
  clear hl
  have hl := hl1
  clear hl1
  exact bForms_mayCome_10 C n n a0 a1 i2 (v_3 - i2) 0 _ _ _ _ hf hW hS (lv_sub hl [2, 3, 4, 1, 0] rfl)

def fForms_longestWhole_L16 (n : Nat) : Nat → Nat → Nat → Int32 → Int32 → Int32 → Int32 → Int32 → gS → Option (Int32 × gS)
  | 0, _, _, _, _, _, _, _, _ => none
  | k + 1, a0b, a1b, i2b, i3b, i4b, i5b, i6b, z =>
    (g_fI z a0b 7 4).bind fun v_4 =>
    if v_4 ≤ i6b then (
    some (i4b, z))
    else (
    (g_is z a0b 7).bind fun _ =>
    g_bp (fForms_textOf n a0b i6b z) fun r_8 z_7 =>
    g_n r_8 (
    fForms_longestWhole_L16 n k a0b a1b i2b i3b i4b i5b (i6b + 1) z_7) (fun a_9 =>
    (g_is z_7 a_9 0).bind fun _ =>
    g_bp (fText_length n a_9 z_7) fun v_12 z_11 =>
    if v_12 ≤ i5b then (
    fForms_longestWhole_L16 n k a0b a1b i2b i3b i4b i5b (i6b + 1) z_11)
    else (
    (g_is z_11 a_9 0).bind fun _ =>
    g_bp (fText_length n a_9 z_11) fun v_16 z_15 =>
    if i3b < v_16 then (
    fForms_longestWhole_L16 n k a0b a1b i2b i3b i4b i5b (i6b + 1) z_15)
    else (
    (g_is z_15 a_9 0).bind fun _ =>
    g_bp (fText_agrees n a_9 a1b i2b z_15) fun v_20 z_19 =>
    if v_20 = 0 then (
    fForms_longestWhole_L16 n k a0b a1b i2b i3b i4b i5b (i6b + 1) z_19)
    else (
    (g_is z_19 a_9 0).bind fun _ =>
    g_bp (fText_length n a_9 z_19) fun v_24 z_23 =>
    fForms_longestWhole_L16 n k a0b a1b i2b i3b i6b v_24 (i6b + 1) z_23)))))
set_option maxHeartbeats 4000000 in
set_option maxRecDepth 100000 in
theorem bForms_longestWhole_16 {p : Program} {l : Launch} {e : Env} {s : State} {m : MethodId} {args : Array Value} {below : List Frame} {meth : Method} {c : Code} {D : va_G} {A : Nat → Prop} (C : g_C p s m meth c args cForms_longestWhole 8 (some .int) "SecretRows$Forms" gW D vwCl gNN gOO A) (n : Nat) {r : Int32} {z' : gS} : ∀ k : Nat, ∀ (a0b : Nat) (a1b : Nat) (i2b : Int32) (i3b : Int32) (i4b : Int32) (i5b : Int32) (i6b : Int32) (z : gS) (H : Heap) (locs : List Loc) (ls : Array Slot), fForms_longestWhole_L16 n k a0b a1b i2b i3b i4b i5b i6b z = some (r, z') → g_W D vwCl A z s H → va_S A s.heap H locs → lv_has ls 8 [(0, .ref a0b), (1, .ref a1b), (2, .int i2b), (3, .int i3b), (4, .int i4b), (5, .int i5b), (6, .int i6b)] → W p l e (headSpec wsForms_longestWhole ({ frames := 2, cells := 0, slots := 0, locals := 45 })).room s m args below meth c H locs 0 0 (MQ below (g_Qi D vwCl A r z') args s 0 0 A) (F0 m 16 ls []) := by
  obtain ⟨hx, hb, hr, hml, hown, hts, hlocks, hK, hA⟩ := id C
  intro k
  induction k with
  | zero =>
    intro a0b a1b i2b i3b i4b i5b i6b z H locs ls hf
    have hf : (none : Option (Int32 × gS)) = some _ := hf
    cases hf
  | succ k ih =>
    intro a0b a1b i2b i3b i4b i5b i6b z H locs ls hf hW hS hl
    rw [fForms_longestWhole_L16] at hf
    refine lv_iload hx hb dForms_longestWhole_16 (lv_at hl 6 rfl) ?_
    refine lv_aload_n hx hb dForms_longestWhole_18 rfl (lv_at hl 0 rfl) ?_
    replace hf := g_bd hf
    obtain ⟨v_4, hv_4, hf⟩ := hf
    refine g_getI hx hb hts in_Forms hown hK hW (ci := 7) (C := "SecretRows$Forms") (T := T_Forms) (N := 5) rfl (k := 4) (by decide) (hts _ kw_69) (fun _ h9 => h9) hv_4 dForms_longestWhole_19 ?_
    refine lv_icmp_ge (tgt := 84) hx hb dForms_longestWhole_22 (by decide) (fun c_5 => ?_) (fun c_5 => ?_)
    · replace hf := g_it c_5 hf
      refine lv_iload hx hb dForms_longestWhole_84 (lv_at hl 4 rfl) ?_
      cases hf
      exact g_reti hx hb hr hlocks hW hS (Nat.le_of_ble_eq_true rfl) (Nat.le_of_ble_eq_true rfl) dForms_longestWhole_86
    · replace hf := g_if c_5 hf
      refine lv_aload_n hx hb dForms_longestWhole_25 rfl (lv_at hl 0 rfl) ?_
      refine lv_iload hx hb dForms_longestWhole_26 (lv_at hl 6 rfl) ?_
      replace hf := g_bd hf
      obtain ⟨_, hi_6, hf⟩ := hf
      replace hf := g_bps hf
      obtain ⟨r_8, z_7, hz_7, hf⟩ := hf
      refine g_goq (g_rV (As := [.int i6b]) (rest := []) ⟨hx, hb, hml, hown, hts⟩ (mForms_textOf l D A n _ _ a0b i6b _ hz_7) (cwV 1 hts (gi_V kw_416 kw_418 ks_Forms_textOf kw_5 kw_419) rfl rfl rfl ⟨rfl, hdForms_textOf⟩ ⟨Nat.le_of_ble_eq_true rfl, Nat.le_of_ble_eq_true rfl⟩) hK hW hS hA (ci := 7) (T := T_Forms) (N := 5) rfl hi_6 rfl hl.1 rfl (Nat.le_of_ble_eq_true rfl) dForms_longestWhole_28 ⟨Nat.le_of_ble_eq_true rfl, Nat.le_of_ble_eq_true rfl⟩) hS (fun H locs hW hS => ?_)
      refine g_astore (lv' := [(7, va_rf r_8), (0, .ref a0b), (1, .ref a1b), (2, .int i2b), (3, .int i3b), (4, .int i4b), (5, .int i5b), (6, .int i6b)]) hx hb dForms_longestWhole_31 hl (by decide) rfl (fun _ hl1 => ?_)
      clear hl
      have hl := hl1
      clear hl1
      refine g_aload hx hb dForms_longestWhole_33 (lv_at hl 0 rfl) ?_
      cases r_8 with
      | none =>
        replace hf := g_n0 hf
        replace hl : lv_has _ 8 [(7, .null), (0, .ref a0b), (1, .ref a1b), (2, .int i2b), (3, .int i3b), (4, .int i4b), (5, .int i5b), (6, .int i6b)] := hl
        refine W.eq (g2 := F0 m 35 _ [.null]) rfl ?_
        refine lv_ifnullN (tgt := 78) hx hb dForms_longestWhole_35 (by decide) ?_
        refine lv_iinc (v := (i6b + 1)) (lv' := [(6, .int (i6b + 1)), (7, .null), (0, .ref a0b), (1, .ref a1b), (2, .int i2b), (3, .int i3b), (4, .int i4b), (5, .int i5b)]) hx hb dForms_longestWhole_78 hl (k := 7) rfl rfl (by decide) rfl (fun _ hl1 => ?_)
        clear hl
        have hl := hl1
        clear hl1
        refine lv_goto (tgt := 16) hx hb dForms_longestWhole_81 (by decide) ?_
        exact ih a0b a1b i2b i3b i4b i5b (i6b + 1) _ _ _ _ hf hW hS (lv_sub hl [2, 3, 4, 5, 6, 7, 0] rfl)
      | some a_9 =>
        replace hf := g_n1 hf
        replace hl : lv_has _ 8 [(7, .ref a_9), (0, .ref a0b), (1, .ref a1b), (2, .int i2b), (3, .int i3b), (4, .int i4b), (5, .int i5b), (6, .int i6b)] := hl
        refine W.eq (g2 := F0 m 35 _ [.ref a_9]) rfl ?_
        refine lv_ifnull hx hb dForms_longestWhole_35 ?_
        refine lv_aload hx hb dForms_longestWhole_38 (lv_at hl 0 rfl) ?_
        replace hf := g_bd hf
        obtain ⟨_, hi_10, hf⟩ := hf
        replace hf := g_bps hf
        obtain ⟨v_12, z_11, hz_11, hf⟩ := hf
        refine g_goi (g_rV (As := []) (rest := []) ⟨hx, hb, hml, hown, hts⟩ (mText_length l D A n _ _ a_9 _ hz_11) (cwV 0 hts (gi_V kw_415 kw_184 kw_185 kw_3 kw_186) rfl rfl rfl ⟨rfl, hdText_length⟩ ⟨Nat.le_of_ble_eq_true rfl, Nat.le_of_ble_eq_true rfl⟩) hK hW hS hA (ci := 0) (T := T_Text) (N := 2) rfl hi_10 rfl hl.1 rfl (Nat.le_of_ble_eq_true rfl) dForms_longestWhole_40 ⟨Nat.le_of_ble_eq_true rfl, Nat.le_of_ble_eq_true rfl⟩) hS (fun H locs hW hS => ?_)
        refine lv_iload hx hb dForms_longestWhole_43 (lv_at hl 6 rfl) ?_
        refine lv_icmp_le (tgt := 78) hx hb dForms_longestWhole_45 (by decide) (fun c_13 => ?_) (fun c_13 => ?_)
        · replace hf := g_it c_13 hf
          refine lv_iinc (v := (i6b + 1)) (lv' := [(6, .int (i6b + 1)), (7, .ref a_9), (0, .ref a0b), (1, .ref a1b), (2, .int i2b), (3, .int i3b), (4, .int i4b), (5, .int i5b)]) hx hb dForms_longestWhole_78 hl (k := 7) rfl rfl (by decide) rfl (fun _ hl1 => ?_)
          clear hl
          have hl := hl1
          clear hl1
          refine lv_goto (tgt := 16) hx hb dForms_longestWhole_81 (by decide) ?_
          exact ih a0b a1b i2b i3b i4b i5b (i6b + 1) _ _ _ _ hf hW hS (lv_sub hl [2, 3, 4, 5, 6, 7, 0] rfl)
        · replace hf := g_if c_13 hf
          refine lv_aload hx hb dForms_longestWhole_48 (lv_at hl 0 rfl) ?_
          replace hf := g_bd hf
          obtain ⟨_, hi_14, hf⟩ := hf
          replace hf := g_bps hf
          obtain ⟨v_16, z_15, hz_15, hf⟩ := hf
          refine g_goi (g_rV (As := []) (rest := []) ⟨hx, hb, hml, hown, hts⟩ (mText_length l D A n _ _ a_9 _ hz_15) (cwV 0 hts (gi_V kw_415 kw_184 kw_185 kw_3 kw_186) rfl rfl rfl ⟨rfl, hdText_length⟩ ⟨Nat.le_of_ble_eq_true rfl, Nat.le_of_ble_eq_true rfl⟩) hK hW hS hA (ci := 0) (T := T_Text) (N := 2) rfl hi_14 rfl hl.1 rfl (Nat.le_of_ble_eq_true rfl) dForms_longestWhole_50 ⟨Nat.le_of_ble_eq_true rfl, Nat.le_of_ble_eq_true rfl⟩) hS (fun H locs hW hS => ?_)
          refine lv_iload_n hx hb dForms_longestWhole_53 rfl (lv_at hl 4 rfl) ?_
          refine lv_icmp_gt (tgt := 78) hx hb dForms_longestWhole_54 (by decide) (fun c_17 => ?_) (fun c_17 => ?_)
          · replace hf := g_it c_17 hf
            refine lv_iinc (v := (i6b + 1)) (lv' := [(6, .int (i6b + 1)), (7, .ref a_9), (0, .ref a0b), (1, .ref a1b), (2, .int i2b), (3, .int i3b), (4, .int i4b), (5, .int i5b)]) hx hb dForms_longestWhole_78 hl (k := 7) rfl rfl (by decide) rfl (fun _ hl1 => ?_)
            clear hl
            have hl := hl1
            clear hl1
            refine lv_goto (tgt := 16) hx hb dForms_longestWhole_81 (by decide) ?_
            exact ih a0b a1b i2b i3b i4b i5b (i6b + 1) _ _ _ _ hf hW hS (lv_sub hl [2, 3, 4, 5, 6, 7, 0] rfl)
          · replace hf := g_if c_17 hf
            refine lv_aload hx hb dForms_longestWhole_57 (lv_at hl 0 rfl) ?_
            refine lv_aload_n hx hb dForms_longestWhole_59 rfl (lv_at hl 2 rfl) ?_
            refine lv_iload_n hx hb dForms_longestWhole_60 rfl (lv_at hl 3 rfl) ?_
            replace hf := g_bd hf
            obtain ⟨_, hi_18, hf⟩ := hf
            replace hf := g_bps hf
            obtain ⟨v_20, z_19, hz_19, hf⟩ := hf
            refine g_goi (g_rV (As := [.ref a1b, .int i2b]) (rest := []) ⟨hx, hb, hml, hown, hts⟩ (mText_agrees l D A n _ _ a_9 a1b i2b _ hz_19) (cwV 2 hts (gi_V kw_424 kw_208 kw_209 kw_3 kw_210) rfl rfl rfl ⟨rfl, hdText_agrees⟩ ⟨Nat.le_of_ble_eq_true rfl, Nat.le_of_ble_eq_true rfl⟩) hK hW hS hA (ci := 0) (T := T_Text) (N := 2) rfl hi_18 rfl hl.1 rfl (Nat.le_of_ble_eq_true rfl) dForms_longestWhole_61 ⟨Nat.le_of_ble_eq_true rfl, Nat.le_of_ble_eq_true rfl⟩) hS (fun H locs hW hS => ?_)
            refine lv_if_eq (tgt := 78) hx hb dForms_longestWhole_64 (by decide) (fun c_21 => ?_) (fun c_21 => ?_)
            · replace hf := g_it c_21 hf
              refine lv_iinc (v := (i6b + 1)) (lv' := [(6, .int (i6b + 1)), (7, .ref a_9), (0, .ref a0b), (1, .ref a1b), (2, .int i2b), (3, .int i3b), (4, .int i4b), (5, .int i5b)]) hx hb dForms_longestWhole_78 hl (k := 7) rfl rfl (by decide) rfl (fun _ hl1 => ?_)
              clear hl
              have hl := hl1
              clear hl1
              refine lv_goto (tgt := 16) hx hb dForms_longestWhole_81 (by decide) ?_
              exact ih a0b a1b i2b i3b i4b i5b (i6b + 1) _ _ _ _ hf hW hS (lv_sub hl [2, 3, 4, 5, 6, 7, 0] rfl)
            · replace hf := g_if c_21 hf
              refine lv_iload hx hb dForms_longestWhole_67 (lv_at hl 7 rfl) ?_
              refine lv_istore (lv' := [(4, .int i6b), (7, .ref a_9), (0, .ref a0b), (1, .ref a1b), (2, .int i2b), (3, .int i3b), (5, .int i5b), (6, .int i6b)]) hx hb dForms_longestWhole_69 hl (by decide) rfl (fun _ hl1 => ?_)
              clear hl
              have hl := hl1
              clear hl1
              refine lv_aload hx hb dForms_longestWhole_71 (lv_at hl 1 rfl) ?_
              replace hf := g_bd hf
              obtain ⟨_, hi_22, hf⟩ := hf
              replace hf := g_bps hf
              obtain ⟨v_24, z_23, hz_23, hf⟩ := hf
              refine g_goi (g_rV (As := []) (rest := []) ⟨hx, hb, hml, hown, hts⟩ (mText_length l D A n _ _ a_9 _ hz_23) (cwV 0 hts (gi_V kw_415 kw_184 kw_185 kw_3 kw_186) rfl rfl rfl ⟨rfl, hdText_length⟩ ⟨Nat.le_of_ble_eq_true rfl, Nat.le_of_ble_eq_true rfl⟩) hK hW hS hA (ci := 0) (T := T_Text) (N := 2) rfl hi_22 rfl hl.1 rfl (Nat.le_of_ble_eq_true rfl) dForms_longestWhole_73 ⟨Nat.le_of_ble_eq_true rfl, Nat.le_of_ble_eq_true rfl⟩) hS (fun H locs hW hS => ?_)
              refine lv_istore (lv' := [(5, .int v_24), (4, .int i6b), (7, .ref a_9), (0, .ref a0b), (1, .ref a1b), (2, .int i2b), (3, .int i3b), (6, .int i6b)]) hx hb dForms_longestWhole_76 hl (by decide) rfl (fun _ hl1 => ?_)
              clear hl
              have hl := hl1
              clear hl1
              refine lv_iinc (v := (i6b + 1)) (lv' := [(6, .int (i6b + 1)), (5, .int v_24), (4, .int i6b), (7, .ref a_9), (0, .ref a0b), (1, .ref a1b), (2, .int i2b), (3, .int i3b)]) hx hb dForms_longestWhole_78 hl (k := 7) rfl rfl (by decide) rfl (fun _ hl1 => ?_)
              clear hl
              have hl := hl1
              clear hl1
              refine lv_goto (tgt := 16) hx hb dForms_longestWhole_81 (by decide) ?_
              exact ih a0b a1b i2b i3b i6b v_24 (i6b + 1) _ _ _ _ hf hW hS (lv_sub hl [4, 5, 6, 7, 2, 1, 0] rfl)
def fForms_longestWhole (n : Nat) (a0 : Nat) (a1 : Nat) (i2 : Int32) (z : gS) : Option (Int32 × gS) :=
    (g_is z a1 0).bind fun _ =>
    g_bp (fText_length n a1 z) fun v_3 z_2 =>
    fForms_longestWhole_L16 n n a0 a1 i2 (v_3 - i2) (-1) 0 0 z_2
set_option maxHeartbeats 4000000 in
set_option maxRecDepth 100000 in
theorem mForms_longestWhole (l : Launch) (D : va_G) (A : Nat → Prop) (n : Nat) (z z' : gS) (a0 : Nat) (a1 : Nat) (i2 : Int32) (r : Int32) (hf : fForms_longestWhole n a0 a1 i2 z = some (r, z')) : Met l yForms_longestWhole wsForms_longestWhole ({ frames := 2, cells := 0, slots := 0, locals := 45 }) (g_P D vwCl gNN gOO A z [.ref a0, .ref a1, .int i2]) (g_Qi D vwCl A r z') 0 0 A := by
  refine Met.ofW (cc := cForms_longestWhole) (maxL := 8) (ret := (some .int)) (by decide) rfl ?_
  intro p e s m args below meth c s₁ B hml hv
  obtain ⟨rfl, hW, hK, hA0⟩ := hv
  have C : g_C p s m meth c _ cForms_longestWhole 8 (some .int) "SecretRows$Forms" gW D vwCl gNN gOO A := ⟨B.exec, B.bytes, B.returns, hml, findClass_of_methodNamed B.named, fun w hw => atoms_spec (ws := wsForms_longestWhole) B.pre w (List.mem_cons_of_mem _ hw), B.notSynchronized, hK, fun q hq => hA0 q (by rw [← hW.1]; exact hq)⟩
  have hS : va_S A s.heap s.heap [] := va_S.rf
  have hl := lv_entry ([.ref a0, .ref a1, .int i2]) (n := 8) (Nat.le_of_ble_eq_true rfl)
  rw [lg_entry_eq]
  generalize (lg_sl ([.ref a0, .ref a1, .int i2]) ++ List.replicate (8 - (lg_sl ([.ref a0, .ref a1, .int i2])).length) Slot.unset).toArray = ls at hl ⊢
  have hl : lv_has ls 8 [(0, .ref a0), (1, .ref a1), (2, .int i2)] := hl
  obtain ⟨hx, hb, hr, hml, hown, hts, hlocks, hK, hA⟩ := id C
  unfold fForms_longestWhole at hf
  refine lv_aload_n hx hb dForms_longestWhole_0 rfl (lv_at hl 1 rfl) ?_
  replace hf := g_bd hf
  obtain ⟨_, hi_1, hf⟩ := hf
  replace hf := g_bps hf
  obtain ⟨v_3, z_2, hz_2, hf⟩ := hf
  refine g_goi (g_rV (As := []) (rest := []) ⟨hx, hb, hml, hown, hts⟩ (mText_length l D A n _ _ a1 _ hz_2) (cwV 0 hts (gi_V kw_415 kw_184 kw_185 kw_3 kw_186) rfl rfl rfl ⟨rfl, hdText_length⟩ ⟨Nat.le_of_ble_eq_true rfl, Nat.le_of_ble_eq_true rfl⟩) hK hW hS hA (ci := 0) (T := T_Text) (N := 2) rfl hi_1 rfl hl.1 rfl (Nat.le_of_ble_eq_true rfl) dForms_longestWhole_1 ⟨Nat.le_of_ble_eq_true rfl, Nat.le_of_ble_eq_true rfl⟩) hS (fun H locs hW hS => ?_)
  refine lv_iload_n hx hb dForms_longestWhole_4 rfl (lv_at hl 2 rfl) ?_
  refine lv_isub hx hb dForms_longestWhole_5 ?_
  refine lv_istore_n (lv' := [(3, .int (v_3 - i2)), (0, .ref a0), (1, .ref a1), (2, .int i2)]) hx hb dForms_longestWhole_6 rfl hl (by decide) rfl (fun _ hl1 => ?_)
  clear hl
  have hl := hl1
  clear hl1
  refine lv_iconst (v := (-1)) hx hb dForms_longestWhole_7 (by decide) ?_
  refine lv_istore (lv' := [(4, .int (-1)), (3, .int (v_3 - i2)), (0, .ref a0), (1, .ref a1), (2, .int i2)]) hx hb dForms_longestWhole_8 hl (by decide) rfl (fun _ hl1 => ?_)
  clear hl
  have hl := hl1
  clear hl1
  refine lv_iconst (v := 0) hx hb dForms_longestWhole_10 (by decide) ?_
  refine lv_istore (lv' := [(5, .int 0), (4, .int (-1)), (3, .int (v_3 - i2)), (0, .ref a0), (1, .ref a1), (2, .int i2)]) hx hb dForms_longestWhole_11 hl (by decide) rfl (fun _ hl1 => ?_)
  clear hl
  have hl := hl1
  clear hl1
  refine lv_iconst (v := 0) hx hb dForms_longestWhole_13 (by decide) ?_
  refine lv_istore (lv' := [(6, .int 0), (5, .int 0), (4, .int (-1)), (3, .int (v_3 - i2)), (0, .ref a0), (1, .ref a1), (2, .int i2)]) hx hb dForms_longestWhole_14 hl (by decide) rfl (fun _ hl1 => ?_)
  clear hl
  have hl := hl1
  clear hl1
  exact bForms_longestWhole_16 C n n a0 a1 i2 (v_3 - i2) (-1) 0 0 _ _ _ _ hf hW hS (lv_sub hl [4, 5, 6, 3, 2, 1, 0] rfl)

def fLog_tellStars_L2 (n : Nat) : Nat → Nat → Int32 → gS → Option (gS)
  | 0, _, _, _ => none
  | k + 1, a0b, i1b, z =>
    if 3 ≤ i1b then (
    some z)
    else (
    (g_fR z a0b 3 1).bind fun r_2 =>
    r_2.bind fun a_3 =>
    (g_is z a_3 0).bind fun _ =>
    g_bp (fText_add n a_3 42 z) fun v_6 z_5 =>
    fLog_tellStars_L2 n k a0b (i1b + 1) z_5)
set_option maxHeartbeats 4000000 in
set_option maxRecDepth 100000 in
theorem bLog_tellStars_2 {p : Program} {l : Launch} {e : Env} {s : State} {m : MethodId} {args : Array Value} {below : List Frame} {meth : Method} {c : Code} {D : va_G} {A : Nat → Prop} (C : g_C p s m meth c args cLog_tellStars 2 none "SecretRows$Log" gW D vwCl gNN gOO A) (n : Nat) {z' : gS} : ∀ k : Nat, ∀ (a0b : Nat) (i1b : Int32) (z : gS) (H : Heap) (locs : List Loc) (ls : Array Slot), fLog_tellStars_L2 n k a0b i1b z = some z' → g_W D vwCl A z s H → va_S A s.heap H locs → lv_has ls 2 [(0, .ref a0b), (1, .int i1b)] → W p l e (headSpec wsLog_tellStars ({ frames := 1, cells := 0, slots := 0, locals := 21 })).room s m args below meth c H locs 0 0 (MQ below (g_Qv D vwCl A z') args s 0 0 A) (F0 m 2 ls []) := by
  obtain ⟨hx, hb, hr, hml, hown, hts, hlocks, hK, hA⟩ := id C
  intro k
  induction k with
  | zero =>
    intro a0b i1b z H locs ls hf
    have hf : (none : Option (gS)) = some _ := hf
    cases hf
  | succ k ih =>
    intro a0b i1b z H locs ls hf hW hS hl
    rw [fLog_tellStars_L2] at hf
    refine lv_iload_n hx hb dLog_tellStars_2 rfl (lv_at hl 1 rfl) ?_
    refine lv_iconst (v := 3) hx hb dLog_tellStars_3 (by decide) ?_
    refine lv_icmp_ge (tgt := 23) hx hb dLog_tellStars_4 (by decide) (fun c_1 => ?_) (fun c_1 => ?_)
    · replace hf := g_it c_1 hf
      cases hf
      exact g_retv hx hb hr hlocks hW hS (Nat.le_of_ble_eq_true rfl) (Nat.le_of_ble_eq_true rfl) dLog_tellStars_23
    · replace hf := g_if c_1 hf
      refine lv_aload_n hx hb dLog_tellStars_7 rfl (lv_at hl 0 rfl) ?_
      replace hf := g_bd hf
      obtain ⟨r_2, hr_2, hf⟩ := hf
      refine g_getR hx hb hts in_Log hown hK hW (ci := 3) (C := "SecretRows$Log") (T := T_Log) (N := 5) rfl (k := 1) (by decide) (hts _ kw_298) (fun _ h9 => h9) hr_2 dLog_tellStars_8 ?_
      refine lv_bipush (v := 42) hx hb dLog_tellStars_11 (by decide) ?_
      replace hf := g_bd hf
      obtain ⟨a_3, ea_3, hf⟩ := hf
      subst ea_3
      refine W.eq (g2 := F0 m 13 _ [.int 42, .ref a_3]) rfl ?_
      replace hf := g_bd hf
      obtain ⟨_, hi_4, hf⟩ := hf
      replace hf := g_bps hf
      obtain ⟨v_6, z_5, hz_5, hf⟩ := hf
      refine g_goi (g_rV (As := [.int 42]) (rest := []) ⟨hx, hb, hml, hown, hts⟩ (mText_add l D A n _ _ a_3 42 _ hz_5) (cwV 1 hts (gi_V kw_430 kw_163 kw_164 kw_3 kw_165) rfl rfl rfl ⟨rfl, hdText_add⟩ ⟨Nat.le_of_ble_eq_true rfl, Nat.le_of_ble_eq_true rfl⟩) hK hW hS hA (ci := 0) (T := T_Text) (N := 2) rfl hi_4 rfl hl.1 rfl (Nat.le_of_ble_eq_true rfl) dLog_tellStars_13 ⟨Nat.le_of_ble_eq_true rfl, Nat.le_of_ble_eq_true rfl⟩) hS (fun H locs hW hS => ?_)
      refine lv_pop hx hb dLog_tellStars_16 rfl ?_
      refine lv_iinc (v := (i1b + 1)) (lv' := [(1, .int (i1b + 1)), (0, .ref a0b)]) hx hb dLog_tellStars_17 hl (k := 1) rfl rfl (by decide) rfl (fun _ hl1 => ?_)
      clear hl
      have hl := hl1
      clear hl1
      refine lv_goto (tgt := 2) hx hb dLog_tellStars_20 (by decide) ?_
      exact ih a0b (i1b + 1) _ _ _ _ hf hW hS (lv_sub hl [1, 0] rfl)
def fLog_tellStars (n : Nat) (a0 : Nat) (z : gS) : Option (gS) :=
    fLog_tellStars_L2 n n a0 0 z
set_option maxHeartbeats 4000000 in
set_option maxRecDepth 100000 in
theorem mLog_tellStars (l : Launch) (D : va_G) (A : Nat → Prop) (n : Nat) (z z' : gS) (a0 : Nat) (hf : fLog_tellStars n a0 z = some z') : Met l yLog_tellStars wsLog_tellStars ({ frames := 1, cells := 0, slots := 0, locals := 21 }) (g_P D vwCl gNN gOO A z [.ref a0]) (g_Qv D vwCl A z') 0 0 A := by
  refine Met.ofW (cc := cLog_tellStars) (maxL := 2) (ret := none) (by decide) rfl ?_
  intro p e s m args below meth c s₁ B hml hv
  obtain ⟨rfl, hW, hK, hA0⟩ := hv
  have C : g_C p s m meth c _ cLog_tellStars 2 none "SecretRows$Log" gW D vwCl gNN gOO A := ⟨B.exec, B.bytes, B.returns, hml, findClass_of_methodNamed B.named, fun w hw => atoms_spec (ws := wsLog_tellStars) B.pre w (List.mem_cons_of_mem _ hw), B.notSynchronized, hK, fun q hq => hA0 q (by rw [← hW.1]; exact hq)⟩
  have hS : va_S A s.heap s.heap [] := va_S.rf
  have hl := lv_entry ([.ref a0]) (n := 2) (Nat.le_of_ble_eq_true rfl)
  rw [lg_entry_eq]
  generalize (lg_sl ([.ref a0]) ++ List.replicate (2 - (lg_sl ([.ref a0])).length) Slot.unset).toArray = ls at hl ⊢
  have hl : lv_has ls 2 [(0, .ref a0)] := hl
  obtain ⟨hx, hb, hr, hml, hown, hts, hlocks, hK, hA⟩ := id C
  unfold fLog_tellStars at hf
  refine lv_iconst (v := 0) hx hb dLog_tellStars_0 (by decide) ?_
  refine lv_istore_n (lv' := [(1, .int 0), (0, .ref a0)]) hx hb dLog_tellStars_1 rfl hl (by decide) rfl (fun _ hl1 => ?_)
  clear hl
  have hl := hl1
  clear hl1
  exact bLog_tellStars_2 C n n a0 0 _ _ _ _ hf hW hS (lv_sub hl [1, 0] rfl)

def fForms_lengthOf (n : Nat) (a0 : Nat) (i1 : Int32) (z : gS) : Option (Int32 × gS) :=
    (g_is z a0 7).bind fun _ =>
    g_bp (fForms_textOf n a0 i1 z) fun r_3 z_2 =>
    g_n r_3 (
    some (0, z_2)) (fun a_4 =>
    (g_is z_2 a_4 0).bind fun _ =>
    g_bp (fText_length n a_4 z_2) fun v_7 z_6 =>
    some (v_7, z_6))
set_option maxHeartbeats 4000000 in
set_option maxRecDepth 100000 in
theorem mForms_lengthOf (l : Launch) (D : va_G) (A : Nat → Prop) (n : Nat) (z z' : gS) (a0 : Nat) (i1 : Int32) (r : Int32) (hf : fForms_lengthOf n a0 i1 z = some (r, z')) : Met l yForms_lengthOf wsForms_lengthOf ({ frames := 2, cells := 0, slots := 0, locals := 42 }) (g_P D vwCl gNN gOO A z [.ref a0, .int i1]) (g_Qi D vwCl A r z') 0 0 A := by
  refine Met.ofW (cc := cForms_lengthOf) (maxL := 3) (ret := (some .int)) (by decide) rfl ?_
  intro p e s m args below meth c s₁ B hml hv
  obtain ⟨rfl, hW, hK, hA0⟩ := hv
  have C : g_C p s m meth c _ cForms_lengthOf 3 (some .int) "SecretRows$Forms" gW D vwCl gNN gOO A := ⟨B.exec, B.bytes, B.returns, hml, findClass_of_methodNamed B.named, fun w hw => atoms_spec (ws := wsForms_lengthOf) B.pre w (List.mem_cons_of_mem _ hw), B.notSynchronized, hK, fun q hq => hA0 q (by rw [← hW.1]; exact hq)⟩
  have hS : va_S A s.heap s.heap [] := va_S.rf
  have hl := lv_entry ([.ref a0, .int i1]) (n := 3) (Nat.le_of_ble_eq_true rfl)
  rw [lg_entry_eq]
  generalize (lg_sl ([.ref a0, .int i1]) ++ List.replicate (3 - (lg_sl ([.ref a0, .int i1])).length) Slot.unset).toArray = ls at hl ⊢
  have hl : lv_has ls 3 [(0, .ref a0), (1, .int i1)] := hl
  obtain ⟨hx, hb, hr, hml, hown, hts, hlocks, hK, hA⟩ := id C
  unfold fForms_lengthOf at hf
  refine lv_aload_n hx hb dForms_lengthOf_0 rfl (lv_at hl 0 rfl) ?_
  refine lv_iload_n hx hb dForms_lengthOf_1 rfl (lv_at hl 1 rfl) ?_
  replace hf := g_bd hf
  obtain ⟨_, hi_1, hf⟩ := hf
  replace hf := g_bps hf
  obtain ⟨r_3, z_2, hz_2, hf⟩ := hf
  refine g_goq (g_rV (As := [.int i1]) (rest := []) ⟨hx, hb, hml, hown, hts⟩ (mForms_textOf l D A n _ _ a0 i1 _ hz_2) (cwV 1 hts (gi_V kw_416 kw_418 ks_Forms_textOf kw_5 kw_419) rfl rfl rfl ⟨rfl, hdForms_textOf⟩ ⟨Nat.le_of_ble_eq_true rfl, Nat.le_of_ble_eq_true rfl⟩) hK hW hS hA (ci := 7) (T := T_Forms) (N := 5) rfl hi_1 rfl hl.1 rfl (Nat.le_of_ble_eq_true rfl) dForms_lengthOf_2 ⟨Nat.le_of_ble_eq_true rfl, Nat.le_of_ble_eq_true rfl⟩) hS (fun H locs hW hS => ?_)
  refine g_astore_n (lv' := [(2, va_rf r_3), (0, .ref a0), (1, .int i1)]) hx hb dForms_lengthOf_5 rfl hl (by decide) rfl (fun _ hl1 => ?_)
  clear hl
  have hl := hl1
  clear hl1
  refine g_aload_n hx hb dForms_lengthOf_6 rfl (lv_at hl 0 rfl) ?_
  cases r_3 with
  | none =>
    replace hf := g_n0 hf
    replace hl : lv_has _ 3 [(2, .null), (0, .ref a0), (1, .int i1)] := hl
    refine W.eq (g2 := F0 m 7 _ [.null]) rfl ?_
    refine lv_ifnonnullN hx hb dForms_lengthOf_7 ?_
    refine lv_iconst (v := 0) hx hb dForms_lengthOf_10 (by decide) ?_
    refine lv_goto (tgt := 18) hx hb dForms_lengthOf_11 (by decide) ?_
    cases hf
    exact g_reti hx hb hr hlocks hW hS (Nat.le_of_ble_eq_true rfl) (Nat.le_of_ble_eq_true rfl) dForms_lengthOf_18
  | some a_4 =>
    replace hf := g_n1 hf
    replace hl : lv_has _ 3 [(2, .ref a_4), (0, .ref a0), (1, .int i1)] := hl
    refine W.eq (g2 := F0 m 7 _ [.ref a_4]) rfl ?_
    refine lv_ifnonnull (tgt := 14) hx hb dForms_lengthOf_7 (by decide) ?_
    refine lv_aload_n hx hb dForms_lengthOf_14 rfl (lv_at hl 0 rfl) ?_
    replace hf := g_bd hf
    obtain ⟨_, hi_5, hf⟩ := hf
    replace hf := g_bps hf
    obtain ⟨v_7, z_6, hz_6, hf⟩ := hf
    refine g_goi (g_rV (As := []) (rest := []) ⟨hx, hb, hml, hown, hts⟩ (mText_length l D A n _ _ a_4 _ hz_6) (cwV 0 hts (gi_V kw_415 kw_184 kw_185 kw_3 kw_186) rfl rfl rfl ⟨rfl, hdText_length⟩ ⟨Nat.le_of_ble_eq_true rfl, Nat.le_of_ble_eq_true rfl⟩) hK hW hS hA (ci := 0) (T := T_Text) (N := 2) rfl hi_5 rfl hl.1 rfl (Nat.le_of_ble_eq_true rfl) dForms_lengthOf_15 ⟨Nat.le_of_ble_eq_true rfl, Nat.le_of_ble_eq_true rfl⟩) hS (fun H locs hW hS => ?_)
    cases hf
    exact g_reti hx hb hr hlocks hW hS (Nat.le_of_ble_eq_true rfl) (Nat.le_of_ble_eq_true rfl) dForms_lengthOf_18

def fLog_cover_J43 (n : Nat) (k2 : Nat → Nat → Int32 → Int32 → gS → Option (gS)) (a0b : Nat) (a1b : Nat) (i2b : Int32) (i3b : Int32) (z : gS) : Option (gS) :=
    (g_fR z a0b 3 0).bind fun r_17 =>
    (g_fI z a0b 3 2).bind fun v_18 =>
    r_17.bind fun a_19 =>
    (g_is z a1b 7).bind fun _ =>
    g_bp (fForms_longestWhole n a1b a_19 v_18 z) fun v_22 z_21 =>
    if v_22 = (-1) then (
    (g_fR z_21 a0b 3 1).bind fun r_33 =>
    (g_fR z_21 a0b 3 0).bind fun r_34 =>
    (g_fI z_21 a0b 3 2).bind fun v_35 =>
    r_34.bind fun a_36 =>
    (g_is z_21 a_36 0).bind fun _ =>
    g_bp (fText_at n a_36 v_35 z_21) fun v_39 z_38 =>
    r_33.bind fun a_40 =>
    (g_is z_38 a_40 0).bind fun _ =>
    g_bp (fText_add n a_40 v_39 z_38) fun v_43 z_42 =>
    (g_fI z_42 a0b 3 2).bind fun v_44 =>
    (g_pF z_42 a0b 3 2 (.int (v_44 + 1))).bind fun z_45 =>
    k2 a0b a1b i2b (i3b + 1) z_45)
    else (
    (g_is z_21 a0b 3).bind fun _ =>
    (fLog_tellStars n a0b z_21).bind fun z_25 =>
    (g_fI z_25 a0b 3 2).bind fun v_26 =>
    (g_is z_25 a1b 7).bind fun _ =>
    g_bp (fForms_lengthOf n a1b v_22 z_25) fun v_29 z_28 =>
    (g_pF z_28 a0b 3 2 (.int (v_26 + v_29))).bind fun z_30 =>
    (g_fI z_30 a0b 3 3).bind fun v_31 =>
    (g_pF z_30 a0b 3 3 (.int (v_31 + 1))).bind fun z_32 =>
    k2 a0b a1b i2b (i3b + 1) z_32)
set_option maxHeartbeats 4000000 in
set_option maxRecDepth 100000 in
theorem bLog_cover_43 {p : Program} {l : Launch} {e : Env} {s : State} {m : MethodId} {args : Array Value} {below : List Frame} {meth : Method} {c : Code} {D : va_G} {A : Nat → Prop} (C : g_C p s m meth c args cLog_cover 5 none "SecretRows$Log" gW D vwCl gNN gOO A) (n : Nat) {z' : gS}
    {k2 : Nat → Nat → Int32 → Int32 → gS → Option (gS)} (hk2 : ∀ (a0b : Nat) (a1b : Nat) (i2b : Int32) (i3b : Int32) (z : gS) (H : Heap) (locs : List Loc) (ls : Array Slot), k2 a0b a1b i2b i3b z = some z' → g_W D vwCl A z s H → va_S A s.heap H locs → lv_has ls 5 [(0, .ref a0b), (1, .ref a1b), (2, .int i2b), (3, .int i3b)] → W p l e (headSpec wsLog_cover ({ frames := 3, cells := 0, slots := 0, locals := 72 })).room s m args below meth c H locs 0 0 (MQ below (g_Qv D vwCl A z') args s 0 0 A) (F0 m 2 ls [])) : ∀ (a0b : Nat) (a1b : Nat) (i2b : Int32) (i3b : Int32) (z : gS) (H : Heap) (locs : List Loc) (ls : Array Slot), fLog_cover_J43 n k2 a0b a1b i2b i3b z = some z' → g_W D vwCl A z s H → va_S A s.heap H locs → lv_has ls 5 [(0, .ref a0b), (1, .ref a1b), (2, .int i2b), (3, .int i3b)] → W p l e (headSpec wsLog_cover ({ frames := 3, cells := 0, slots := 0, locals := 72 })).room s m args below meth c H locs 0 0 (MQ below (g_Qv D vwCl A z') args s 0 0 A) (F0 m 43 ls []) := by
  obtain ⟨hx, hb, hr, hml, hown, hts, hlocks, hK, hA⟩ := id C
  intro a0b a1b i2b i3b z H locs ls hf hW hS hl
  unfold fLog_cover_J43 at hf
  refine lv_aload_n hx hb dLog_cover_43 rfl (lv_at hl 1 rfl) ?_
  refine lv_aload_n hx hb dLog_cover_44 rfl (lv_at hl 0 rfl) ?_
  replace hf := g_bd hf
  obtain ⟨r_17, hr_17, hf⟩ := hf
  refine g_getR hx hb hts in_Log hown hK hW (ci := 3) (C := "SecretRows$Log") (T := T_Log) (N := 5) rfl (k := 0) (by decide) (hts _ kw_297) (fun _ h9 => h9) hr_17 dLog_cover_45 ?_
  refine lv_aload_n hx hb dLog_cover_48 rfl (lv_at hl 0 rfl) ?_
  replace hf := g_bd hf
  obtain ⟨v_18, hv_18, hf⟩ := hf
  refine g_getI hx hb hts in_Log hown hK hW (ci := 3) (C := "SecretRows$Log") (T := T_Log) (N := 5) rfl (k := 2) (by decide) (hts _ kw_300) (fun _ h9 => h9) hv_18 dLog_cover_49 ?_
  replace hf := g_bd hf
  obtain ⟨a_19, ea_19, hf⟩ := hf
  subst ea_19
  refine W.eq (g2 := F0 m 52 _ [.int v_18, .ref a_19, .ref a1b]) rfl ?_
  replace hf := g_bd hf
  obtain ⟨_, hi_20, hf⟩ := hf
  replace hf := g_bps hf
  obtain ⟨v_22, z_21, hz_21, hf⟩ := hf
  refine g_goi (g_rV (As := [.ref a_19, .int v_18]) (rest := []) ⟨hx, hb, hml, hown, hts⟩ (mForms_longestWhole l D A n _ _ a1b a_19 v_18 _ hz_21) (cwV 2 hts (gi_V kw_425 kw_426 kw_427 kw_5 kw_428) rfl rfl rfl ⟨rfl, hdForms_longestWhole⟩ ⟨Nat.le_of_ble_eq_true rfl, Nat.le_of_ble_eq_true rfl⟩) hK hW hS hA (ci := 7) (T := T_Forms) (N := 5) rfl hi_20 rfl hl.1 rfl (Nat.le_of_ble_eq_true rfl) dLog_cover_52 ⟨Nat.le_of_ble_eq_true rfl, Nat.le_of_ble_eq_true rfl⟩) hS (fun H locs hW hS => ?_)
  refine lv_istore (lv' := [(4, .int v_22), (0, .ref a0b), (1, .ref a1b), (2, .int i2b), (3, .int i3b)]) hx hb dLog_cover_55 hl (by decide) rfl (fun _ hl1 => ?_)
  clear hl
  have hl := hl1
  clear hl1
  refine lv_iload hx hb dLog_cover_57 (lv_at hl 0 rfl) ?_
  refine lv_iconst (v := (-1)) hx hb dLog_cover_59 (by decide) ?_
  refine lv_icmp_ne (tgt := 95) hx hb dLog_cover_60 (by decide) (fun c_23 => ?_) (fun c_23 => ?_)
  · replace hf := g_if c_23 hf
    refine lv_aload_n hx hb dLog_cover_95 rfl (lv_at hl 1 rfl) ?_
    replace hf := g_bd hf
    obtain ⟨_, hi_24, hf⟩ := hf
    replace hf := g_bd hf
    obtain ⟨z_25, hz_25, hf⟩ := hf
    refine g_gov (g_rV (As := []) (rest := []) ⟨hx, hb, hml, hown, hts⟩ (mLog_tellStars l D A n _ _ a0b hz_25) (cwV 0 hts (gi_V kw_431 kw_433 ks_Log_tellStars kw_10 kw_434) rfl rfl rfl ⟨rfl, hdLog_tellStars⟩ ⟨Nat.le_of_ble_eq_true rfl, Nat.le_of_ble_eq_true rfl⟩) hK hW hS hA (ci := 3) (T := T_Log) (N := 5) rfl hi_24 rfl hl.1 rfl (Nat.le_of_ble_eq_true rfl) dLog_cover_96 ⟨Nat.le_of_ble_eq_true rfl, Nat.le_of_ble_eq_true rfl⟩) hS (fun H locs hW hS => ?_)
    refine lv_aload_n hx hb dLog_cover_99 rfl (lv_at hl 1 rfl) ?_
    refine lv_dup hx hb dLog_cover_100 rfl ?_
    replace hf := g_bd hf
    obtain ⟨v_26, hv_26, hf⟩ := hf
    refine g_getI hx hb hts in_Log hown hK hW (ci := 3) (C := "SecretRows$Log") (T := T_Log) (N := 5) rfl (k := 2) (by decide) (hts _ kw_300) (fun _ h9 => h9) hv_26 dLog_cover_101 ?_
    refine lv_aload_n hx hb dLog_cover_104 rfl (lv_at hl 2 rfl) ?_
    refine lv_iload hx hb dLog_cover_105 (lv_at hl 0 rfl) ?_
    replace hf := g_bd hf
    obtain ⟨_, hi_27, hf⟩ := hf
    replace hf := g_bps hf
    obtain ⟨v_29, z_28, hz_28, hf⟩ := hf
    refine g_goi (g_rV (As := [.int v_22]) (rest := [.int v_26, .ref a0b]) ⟨hx, hb, hml, hown, hts⟩ (mForms_lengthOf l D A n _ _ a1b v_22 _ hz_28) (cwV 1 hts (gi_V kw_435 kw_436 kw_437 kw_5 kw_438) rfl rfl rfl ⟨rfl, hdForms_lengthOf⟩ ⟨Nat.le_of_ble_eq_true rfl, Nat.le_of_ble_eq_true rfl⟩) hK hW hS hA (ci := 7) (T := T_Forms) (N := 5) rfl hi_27 rfl hl.1 rfl (Nat.le_of_ble_eq_true rfl) dLog_cover_107 ⟨Nat.le_of_ble_eq_true rfl, Nat.le_of_ble_eq_true rfl⟩) hS (fun H locs hW hS => ?_)
    refine lv_iadd hx hb dLog_cover_110 ?_
    replace hf := g_bd hf
    obtain ⟨z_30, hz_30, hf⟩ := hf
    refine g_put hx hb hts in_Log ty_Log tyok_Log nm_Log hown hK hW hS (ci := 3) (C := "SecretRows$Log") (T := T_Log) (N := 5) rfl (k := 2) (by decide) (hts _ kw_300) (fun _ h9 => h9) rfl (ty := .int) (by decide +kernel) rfl rfl hz_30 dLog_cover_111 (fun H locs hW hS => ?_)
    refine lv_aload_n hx hb dLog_cover_114 rfl (lv_at hl 1 rfl) ?_
    refine lv_dup hx hb dLog_cover_115 rfl ?_
    replace hf := g_bd hf
    obtain ⟨v_31, hv_31, hf⟩ := hf
    refine g_getI hx hb hts in_Log hown hK hW (ci := 3) (C := "SecretRows$Log") (T := T_Log) (N := 5) rfl (k := 3) (by decide) (hts _ kw_301) (fun _ h9 => h9) hv_31 dLog_cover_116 ?_
    refine lv_iconst (v := 1) hx hb dLog_cover_119 (by decide) ?_
    refine lv_iadd hx hb dLog_cover_120 ?_
    replace hf := g_bd hf
    obtain ⟨z_32, hz_32, hf⟩ := hf
    refine g_put hx hb hts in_Log ty_Log tyok_Log nm_Log hown hK hW hS (ci := 3) (C := "SecretRows$Log") (T := T_Log) (N := 5) rfl (k := 3) (by decide) (hts _ kw_301) (fun _ h9 => h9) rfl (ty := .int) (by decide +kernel) rfl rfl hz_32 dLog_cover_121 (fun H locs hW hS => ?_)
    refine lv_iinc (v := (i3b + 1)) (lv' := [(3, .int (i3b + 1)), (4, .int v_22), (0, .ref a0b), (1, .ref a1b), (2, .int i2b)]) hx hb dLog_cover_124 hl (k := 4) rfl rfl (by decide) rfl (fun _ hl1 => ?_)
    clear hl
    have hl := hl1
    clear hl1
    refine lv_goto (tgt := 2) hx hb dLog_cover_127 (by decide) ?_
    exact hk2 a0b a1b i2b (i3b + 1) _ _ _ _ hf hW hS (lv_sub hl [2, 3, 4, 0] rfl)
  · replace hf := g_it c_23 hf
    refine lv_aload_n hx hb dLog_cover_63 rfl (lv_at hl 1 rfl) ?_
    replace hf := g_bd hf
    obtain ⟨r_33, hr_33, hf⟩ := hf
    refine g_getR hx hb hts in_Log hown hK hW (ci := 3) (C := "SecretRows$Log") (T := T_Log) (N := 5) rfl (k := 1) (by decide) (hts _ kw_298) (fun _ h9 => h9) hr_33 dLog_cover_64 ?_
    refine lv_aload_n hx hb dLog_cover_67 rfl (lv_at hl 1 rfl) ?_
    replace hf := g_bd hf
    obtain ⟨r_34, hr_34, hf⟩ := hf
    refine g_getR hx hb hts in_Log hown hK hW (ci := 3) (C := "SecretRows$Log") (T := T_Log) (N := 5) rfl (k := 0) (by decide) (hts _ kw_297) (fun _ h9 => h9) hr_34 dLog_cover_68 ?_
    refine lv_aload_n hx hb dLog_cover_71 rfl (lv_at hl 1 rfl) ?_
    replace hf := g_bd hf
    obtain ⟨v_35, hv_35, hf⟩ := hf
    refine g_getI hx hb hts in_Log hown hK hW (ci := 3) (C := "SecretRows$Log") (T := T_Log) (N := 5) rfl (k := 2) (by decide) (hts _ kw_300) (fun _ h9 => h9) hv_35 dLog_cover_72 ?_
    replace hf := g_bd hf
    obtain ⟨a_36, ea_36, hf⟩ := hf
    subst ea_36
    refine W.eq (g2 := F0 m 75 _ [.int v_35, .ref a_36, va_rf r_33]) rfl ?_
    replace hf := g_bd hf
    obtain ⟨_, hi_37, hf⟩ := hf
    replace hf := g_bps hf
    obtain ⟨v_39, z_38, hz_38, hf⟩ := hf
    refine g_goi (g_rV (As := [.int v_35]) (rest := [va_rf r_33]) ⟨hx, hb, hml, hown, hts⟩ (mText_at l D A n _ _ a_36 v_35 _ hz_38) (cwV 1 hts (gi_V kw_429 kw_192 kw_193 kw_3 kw_194) rfl rfl rfl ⟨rfl, hdText_at⟩ ⟨Nat.le_of_ble_eq_true rfl, Nat.le_of_ble_eq_true rfl⟩) hK hW hS hA (ci := 0) (T := T_Text) (N := 2) rfl hi_37 rfl hl.1 rfl (by simp only [List.map_cons, List.map_nil, g_cat]; exact Nat.le_of_ble_eq_true rfl) dLog_cover_75 ⟨Nat.le_of_ble_eq_true rfl, Nat.le_of_ble_eq_true rfl⟩) hS (fun H locs hW hS => ?_)
    replace hf := g_bd hf
    obtain ⟨a_40, ea_40, hf⟩ := hf
    subst ea_40
    refine W.eq (g2 := F0 m 78 _ [.int v_39, .ref a_40]) rfl ?_
    replace hf := g_bd hf
    obtain ⟨_, hi_41, hf⟩ := hf
    replace hf := g_bps hf
    obtain ⟨v_43, z_42, hz_42, hf⟩ := hf
    refine g_goi (g_rV (As := [.int v_39]) (rest := []) ⟨hx, hb, hml, hown, hts⟩ (mText_add l D A n _ _ a_40 v_39 _ hz_42) (cwV 1 hts (gi_V kw_430 kw_163 kw_164 kw_3 kw_165) rfl rfl rfl ⟨rfl, hdText_add⟩ ⟨Nat.le_of_ble_eq_true rfl, Nat.le_of_ble_eq_true rfl⟩) hK hW hS hA (ci := 0) (T := T_Text) (N := 2) rfl hi_41 rfl hl.1 rfl (Nat.le_of_ble_eq_true rfl) dLog_cover_78 ⟨Nat.le_of_ble_eq_true rfl, Nat.le_of_ble_eq_true rfl⟩) hS (fun H locs hW hS => ?_)
    refine lv_pop hx hb dLog_cover_81 rfl ?_
    refine lv_aload_n hx hb dLog_cover_82 rfl (lv_at hl 1 rfl) ?_
    refine lv_dup hx hb dLog_cover_83 rfl ?_
    replace hf := g_bd hf
    obtain ⟨v_44, hv_44, hf⟩ := hf
    refine g_getI hx hb hts in_Log hown hK hW (ci := 3) (C := "SecretRows$Log") (T := T_Log) (N := 5) rfl (k := 2) (by decide) (hts _ kw_300) (fun _ h9 => h9) hv_44 dLog_cover_84 ?_
    refine lv_iconst (v := 1) hx hb dLog_cover_87 (by decide) ?_
    refine lv_iadd hx hb dLog_cover_88 ?_
    replace hf := g_bd hf
    obtain ⟨z_45, hz_45, hf⟩ := hf
    refine g_put hx hb hts in_Log ty_Log tyok_Log nm_Log hown hK hW hS (ci := 3) (C := "SecretRows$Log") (T := T_Log) (N := 5) rfl (k := 2) (by decide) (hts _ kw_300) (fun _ h9 => h9) rfl (ty := .int) (by decide +kernel) rfl rfl hz_45 dLog_cover_89 (fun H locs hW hS => ?_)
    refine lv_goto (tgt := 124) hx hb dLog_cover_92 (by decide) ?_
    refine lv_iinc (v := (i3b + 1)) (lv' := [(3, .int (i3b + 1)), (4, .int v_22), (0, .ref a0b), (1, .ref a1b), (2, .int i2b)]) hx hb dLog_cover_124 hl (k := 4) rfl rfl (by decide) rfl (fun _ hl1 => ?_)
    clear hl
    have hl := hl1
    clear hl1
    refine lv_goto (tgt := 2) hx hb dLog_cover_127 (by decide) ?_
    exact hk2 a0b a1b i2b (i3b + 1) _ _ _ _ hf hW hS (lv_sub hl [2, 3, 4, 0] rfl)
def fLog_cover_L2 (n : Nat) : Nat → Nat → Nat → Int32 → Int32 → gS → Option (gS)
  | 0, _, _, _, _, _ => none
  | k + 1, a0b, a1b, i2b, i3b, z =>
    if 300 ≤ i3b then (
    some z)
    else (
    (g_fI z a0b 3 2).bind fun v_2 =>
    (g_fR z a0b 3 0).bind fun r_3 =>
    r_3.bind fun a_4 =>
    (g_is z a_4 0).bind fun _ =>
    g_bp (fText_length n a_4 z) fun v_7 z_6 =>
    if v_7 ≤ v_2 then (
    some z_6)
    else (
    if i2b = 0 then (
    (g_fR z_6 a0b 3 0).bind fun r_10 =>
    (g_fI z_6 a0b 3 2).bind fun v_11 =>
    r_10.bind fun a_12 =>
    (g_is z_6 a1b 7).bind fun _ =>
    g_bp (fForms_mayCome n a1b a_12 v_11 z_6) fun v_15 z_14 =>
    if v_15 = 0 then (
    fLog_cover_J43 n (fun a0b a1b i2b i3b z => fLog_cover_L2 n k a0b a1b i2b i3b z) a0b a1b i2b i3b z_14)
    else (
    some z_14))
    else (
    fLog_cover_J43 n (fun a0b a1b i2b i3b z => fLog_cover_L2 n k a0b a1b i2b i3b z) a0b a1b i2b i3b z_6)))
set_option maxHeartbeats 4000000 in
set_option maxRecDepth 100000 in
theorem bLog_cover_2 {p : Program} {l : Launch} {e : Env} {s : State} {m : MethodId} {args : Array Value} {below : List Frame} {meth : Method} {c : Code} {D : va_G} {A : Nat → Prop} (C : g_C p s m meth c args cLog_cover 5 none "SecretRows$Log" gW D vwCl gNN gOO A) (n : Nat) {z' : gS} : ∀ k : Nat, ∀ (a0b : Nat) (a1b : Nat) (i2b : Int32) (i3b : Int32) (z : gS) (H : Heap) (locs : List Loc) (ls : Array Slot), fLog_cover_L2 n k a0b a1b i2b i3b z = some z' → g_W D vwCl A z s H → va_S A s.heap H locs → lv_has ls 5 [(0, .ref a0b), (1, .ref a1b), (2, .int i2b), (3, .int i3b)] → W p l e (headSpec wsLog_cover ({ frames := 3, cells := 0, slots := 0, locals := 72 })).room s m args below meth c H locs 0 0 (MQ below (g_Qv D vwCl A z') args s 0 0 A) (F0 m 2 ls []) := by
  obtain ⟨hx, hb, hr, hml, hown, hts, hlocks, hK, hA⟩ := id C
  intro k
  induction k with
  | zero =>
    intro a0b a1b i2b i3b z H locs ls hf
    have hf : (none : Option (gS)) = some _ := hf
    cases hf
  | succ k ih =>
    intro a0b a1b i2b i3b z H locs ls hf hW hS hl
    rw [fLog_cover_L2] at hf
    refine lv_iload_n hx hb dLog_cover_2 rfl (lv_at hl 3 rfl) ?_
    refine lv_sipush (v := 300) hx hb dLog_cover_3 (by decide) ?_
    refine lv_icmp_ge (tgt := 130) hx hb dLog_cover_6 (by decide) (fun c_1 => ?_) (fun c_1 => ?_)
    · replace hf := g_it c_1 hf
      cases hf
      exact g_retv hx hb hr hlocks hW hS (Nat.le_of_ble_eq_true rfl) (Nat.le_of_ble_eq_true rfl) dLog_cover_130
    · replace hf := g_if c_1 hf
      refine lv_aload_n hx hb dLog_cover_9 rfl (lv_at hl 0 rfl) ?_
      replace hf := g_bd hf
      obtain ⟨v_2, hv_2, hf⟩ := hf
      refine g_getI hx hb hts in_Log hown hK hW (ci := 3) (C := "SecretRows$Log") (T := T_Log) (N := 5) rfl (k := 2) (by decide) (hts _ kw_300) (fun _ h9 => h9) hv_2 dLog_cover_10 ?_
      refine lv_aload_n hx hb dLog_cover_13 rfl (lv_at hl 0 rfl) ?_
      replace hf := g_bd hf
      obtain ⟨r_3, hr_3, hf⟩ := hf
      refine g_getR hx hb hts in_Log hown hK hW (ci := 3) (C := "SecretRows$Log") (T := T_Log) (N := 5) rfl (k := 0) (by decide) (hts _ kw_297) (fun _ h9 => h9) hr_3 dLog_cover_14 ?_
      replace hf := g_bd hf
      obtain ⟨a_4, ea_4, hf⟩ := hf
      subst ea_4
      refine W.eq (g2 := F0 m 17 _ [.ref a_4, .int v_2]) rfl ?_
      replace hf := g_bd hf
      obtain ⟨_, hi_5, hf⟩ := hf
      replace hf := g_bps hf
      obtain ⟨v_7, z_6, hz_6, hf⟩ := hf
      refine g_goi (g_rV (As := []) (rest := [.int v_2]) ⟨hx, hb, hml, hown, hts⟩ (mText_length l D A n _ _ a_4 _ hz_6) (cwV 0 hts (gi_V kw_385 kw_184 kw_185 kw_3 kw_186) rfl rfl rfl ⟨rfl, hdText_length⟩ ⟨Nat.le_of_ble_eq_true rfl, Nat.le_of_ble_eq_true rfl⟩) hK hW hS hA (ci := 0) (T := T_Text) (N := 2) rfl hi_5 rfl hl.1 rfl (Nat.le_of_ble_eq_true rfl) dLog_cover_17 ⟨Nat.le_of_ble_eq_true rfl, Nat.le_of_ble_eq_true rfl⟩) hS (fun H locs hW hS => ?_)
      refine lv_icmp_ge (tgt := 130) hx hb dLog_cover_20 (by decide) (fun c_8 => ?_) (fun c_8 => ?_)
      · replace hf := g_it c_8 hf
        cases hf
        exact g_retv hx hb hr hlocks hW hS (Nat.le_of_ble_eq_true rfl) (Nat.le_of_ble_eq_true rfl) dLog_cover_130
      · replace hf := g_if c_8 hf
        refine lv_iload_n hx hb dLog_cover_23 rfl (lv_at hl 2 rfl) ?_
        refine lv_if_ne (tgt := 43) hx hb dLog_cover_24 (by decide) (fun c_9 => ?_) (fun c_9 => ?_)
        · replace hf := g_if c_9 hf
          exact bLog_cover_43 C n (fun a0b a1b i2b i3b => ih a0b a1b i2b i3b) a0b a1b i2b i3b _ _ _ _ hf hW hS (lv_sub hl [0, 1, 2, 3] rfl)
        · replace hf := g_it c_9 hf
          refine lv_aload_n hx hb dLog_cover_27 rfl (lv_at hl 1 rfl) ?_
          refine lv_aload_n hx hb dLog_cover_28 rfl (lv_at hl 0 rfl) ?_
          replace hf := g_bd hf
          obtain ⟨r_10, hr_10, hf⟩ := hf
          refine g_getR hx hb hts in_Log hown hK hW (ci := 3) (C := "SecretRows$Log") (T := T_Log) (N := 5) rfl (k := 0) (by decide) (hts _ kw_297) (fun _ h9 => h9) hr_10 dLog_cover_29 ?_
          refine lv_aload_n hx hb dLog_cover_32 rfl (lv_at hl 0 rfl) ?_
          replace hf := g_bd hf
          obtain ⟨v_11, hv_11, hf⟩ := hf
          refine g_getI hx hb hts in_Log hown hK hW (ci := 3) (C := "SecretRows$Log") (T := T_Log) (N := 5) rfl (k := 2) (by decide) (hts _ kw_300) (fun _ h9 => h9) hv_11 dLog_cover_33 ?_
          replace hf := g_bd hf
          obtain ⟨a_12, ea_12, hf⟩ := hf
          subst ea_12
          refine W.eq (g2 := F0 m 36 _ [.int v_11, .ref a_12, .ref a1b]) rfl ?_
          replace hf := g_bd hf
          obtain ⟨_, hi_13, hf⟩ := hf
          replace hf := g_bps hf
          obtain ⟨v_15, z_14, hz_14, hf⟩ := hf
          refine g_goi (g_rV (As := [.ref a_12, .int v_11]) (rest := []) ⟨hx, hb, hml, hown, hts⟩ (mForms_mayCome l D A n _ _ a1b a_12 v_11 _ hz_14) (cwV 2 hts (gi_V kw_411 kw_412 kw_413 kw_5 kw_414) rfl rfl rfl ⟨rfl, hdForms_mayCome⟩ ⟨Nat.le_of_ble_eq_true rfl, Nat.le_of_ble_eq_true rfl⟩) hK hW hS hA (ci := 7) (T := T_Forms) (N := 5) rfl hi_13 rfl hl.1 rfl (Nat.le_of_ble_eq_true rfl) dLog_cover_36 ⟨Nat.le_of_ble_eq_true rfl, Nat.le_of_ble_eq_true rfl⟩) hS (fun H locs hW hS => ?_)
          refine lv_if_eq (tgt := 43) hx hb dLog_cover_39 (by decide) (fun c_16 => ?_) (fun c_16 => ?_)
          · replace hf := g_it c_16 hf
            exact bLog_cover_43 C n (fun a0b a1b i2b i3b => ih a0b a1b i2b i3b) a0b a1b i2b i3b _ _ _ _ hf hW hS (lv_sub hl [0, 1, 2, 3] rfl)
          · replace hf := g_if c_16 hf
            cases hf
            exact g_retv hx hb hr hlocks hW hS (Nat.le_of_ble_eq_true rfl) (Nat.le_of_ble_eq_true rfl) dLog_cover_42
def fLog_cover (n : Nat) (a0 : Nat) (a1 : Nat) (i2 : Int32) (z : gS) : Option (gS) :=
    fLog_cover_L2 n n a0 a1 i2 0 z
set_option maxHeartbeats 4000000 in
set_option maxRecDepth 100000 in
theorem mLog_cover (l : Launch) (D : va_G) (A : Nat → Prop) (n : Nat) (z z' : gS) (a0 : Nat) (a1 : Nat) (i2 : Int32) (hf : fLog_cover n a0 a1 i2 z = some z') : Met l yLog_cover wsLog_cover ({ frames := 3, cells := 0, slots := 0, locals := 72 }) (g_P D vwCl gNN gOO A z [.ref a0, .ref a1, .int i2]) (g_Qv D vwCl A z') 0 0 A := by
  refine Met.ofW (cc := cLog_cover) (maxL := 5) (ret := none) (by decide) rfl ?_
  intro p e s m args below meth c s₁ B hml hv
  obtain ⟨rfl, hW, hK, hA0⟩ := hv
  have C : g_C p s m meth c _ cLog_cover 5 none "SecretRows$Log" gW D vwCl gNN gOO A := ⟨B.exec, B.bytes, B.returns, hml, findClass_of_methodNamed B.named, fun w hw => atoms_spec (ws := wsLog_cover) B.pre w (List.mem_cons_of_mem _ hw), B.notSynchronized, hK, fun q hq => hA0 q (by rw [← hW.1]; exact hq)⟩
  have hS : va_S A s.heap s.heap [] := va_S.rf
  have hl := lv_entry ([.ref a0, .ref a1, .int i2]) (n := 5) (Nat.le_of_ble_eq_true rfl)
  rw [lg_entry_eq]
  generalize (lg_sl ([.ref a0, .ref a1, .int i2]) ++ List.replicate (5 - (lg_sl ([.ref a0, .ref a1, .int i2])).length) Slot.unset).toArray = ls at hl ⊢
  have hl : lv_has ls 5 [(0, .ref a0), (1, .ref a1), (2, .int i2)] := hl
  obtain ⟨hx, hb, hr, hml, hown, hts, hlocks, hK, hA⟩ := id C
  unfold fLog_cover at hf
  refine lv_iconst (v := 0) hx hb dLog_cover_0 (by decide) ?_
  refine lv_istore_n (lv' := [(3, .int 0), (0, .ref a0), (1, .ref a1), (2, .int i2)]) hx hb dLog_cover_1 rfl hl (by decide) rfl (fun _ hl1 => ?_)
  clear hl
  have hl := hl1
  clear hl1
  exact bLog_cover_2 C n n a0 a1 i2 0 _ _ _ _ hf hW hS (lv_sub hl [1, 2, 3, 0] rfl)

def fLog_come (n : Nat) (a0 : Nat) (a1 : Nat) (a2 : Nat) (z : gS) : Option (gS) :=
    (g_fR z a0 3 0).bind fun r_1 =>
    r_1.bind fun a_2 =>
    (g_is z a_2 0).bind fun _ =>
    (fText_addAll n a_2 a1 z).bind fun z_4 =>
    (g_is z_4 a0 3).bind fun _ =>
    (fLog_cover n a0 a2 0 z_4).bind fun z_6 =>
    some z_6
set_option maxHeartbeats 4000000 in
set_option maxRecDepth 100000 in
theorem mLog_come (l : Launch) (D : va_G) (A : Nat → Prop) (n : Nat) (z z' : gS) (a0 : Nat) (a1 : Nat) (a2 : Nat) (hf : fLog_come n a0 a1 a2 z = some z') : Met l yLog_come wsLog_come ({ frames := 4, cells := 0, slots := 0, locals := 96 }) (g_P D vwCl gNN gOO A z [.ref a0, .ref a1, .ref a2]) (g_Qv D vwCl A z') 0 0 A := by
  refine Met.ofW (cc := cLog_come) (maxL := 3) (ret := none) (by decide) rfl ?_
  intro p e s m args below meth c s₁ B hml hv
  obtain ⟨rfl, hW, hK, hA0⟩ := hv
  have C : g_C p s m meth c _ cLog_come 3 none "SecretRows$Log" gW D vwCl gNN gOO A := ⟨B.exec, B.bytes, B.returns, hml, findClass_of_methodNamed B.named, fun w hw => atoms_spec (ws := wsLog_come) B.pre w (List.mem_cons_of_mem _ hw), B.notSynchronized, hK, fun q hq => hA0 q (by rw [← hW.1]; exact hq)⟩
  have hS : va_S A s.heap s.heap [] := va_S.rf
  have hl := lv_entry ([.ref a0, .ref a1, .ref a2]) (n := 3) (Nat.le_of_ble_eq_true rfl)
  rw [lg_entry_eq]
  generalize (lg_sl ([.ref a0, .ref a1, .ref a2]) ++ List.replicate (3 - (lg_sl ([.ref a0, .ref a1, .ref a2])).length) Slot.unset).toArray = ls at hl ⊢
  have hl : lv_has ls 3 [(0, .ref a0), (1, .ref a1), (2, .ref a2)] := hl
  obtain ⟨hx, hb, hr, hml, hown, hts, hlocks, hK, hA⟩ := id C
  unfold fLog_come at hf
  refine lv_aload_n hx hb dLog_come_0 rfl (lv_at hl 0 rfl) ?_
  replace hf := g_bd hf
  obtain ⟨r_1, hr_1, hf⟩ := hf
  refine g_getR hx hb hts in_Log hown hK hW (ci := 3) (C := "SecretRows$Log") (T := T_Log) (N := 5) rfl (k := 0) (by decide) (hts _ kw_297) (fun _ h9 => h9) hr_1 dLog_come_1 ?_
  refine lv_aload_n hx hb dLog_come_4 rfl (lv_at hl 1 rfl) ?_
  replace hf := g_bd hf
  obtain ⟨a_2, ea_2, hf⟩ := hf
  subst ea_2
  refine W.eq (g2 := F0 m 5 _ [.ref a1, .ref a_2]) rfl ?_
  replace hf := g_bd hf
  obtain ⟨_, hi_3, hf⟩ := hf
  replace hf := g_bd hf
  obtain ⟨z_4, hz_4, hf⟩ := hf
  refine g_gov (g_rV (As := [.ref a1]) (rest := []) ⟨hx, hb, hml, hown, hts⟩ (mText_addAll l D A n _ _ a_2 a1 hz_4) (cwV 1 hts (gi_V kw_406 kw_224 kw_225 kw_3 kw_226) rfl rfl rfl ⟨rfl, hdText_addAll⟩ ⟨Nat.le_of_ble_eq_true rfl, Nat.le_of_ble_eq_true rfl⟩) hK hW hS hA (ci := 0) (T := T_Text) (N := 2) rfl hi_3 rfl hl.1 rfl (Nat.le_of_ble_eq_true rfl) dLog_come_5 ⟨Nat.le_of_ble_eq_true rfl, Nat.le_of_ble_eq_true rfl⟩) hS (fun H locs hW hS => ?_)
  refine lv_aload_n hx hb dLog_come_8 rfl (lv_at hl 0 rfl) ?_
  refine lv_aload_n hx hb dLog_come_9 rfl (lv_at hl 2 rfl) ?_
  refine lv_iconst (v := 0) hx hb dLog_come_10 (by decide) ?_
  replace hf := g_bd hf
  obtain ⟨_, hi_5, hf⟩ := hf
  replace hf := g_bd hf
  obtain ⟨z_6, hz_6, hf⟩ := hf
  refine g_gov (g_rV (As := [.ref a2, .int 0]) (rest := []) ⟨hx, hb, hml, hown, hts⟩ (mLog_cover l D A n _ _ a0 a2 0 hz_6) (cwV 2 hts (gi_V kw_407 kw_409 ks_Log_cover kw_10 kw_410) rfl rfl rfl ⟨rfl, hdLog_cover⟩ ⟨Nat.le_of_ble_eq_true rfl, Nat.le_of_ble_eq_true rfl⟩) hK hW hS hA (ci := 3) (T := T_Log) (N := 5) rfl hi_5 rfl hl.1 rfl (Nat.le_of_ble_eq_true rfl) dLog_come_11 ⟨Nat.le_of_ble_eq_true rfl, Nat.le_of_ble_eq_true rfl⟩) hS (fun H locs hW hS => ?_)
  cases hf
  exact g_retv hx hb hr hlocks hW hS (Nat.le_of_ble_eq_true rfl) (Nat.le_of_ble_eq_true rfl) dLog_come_14

def fMain_logFromTape (n : Nat) (a0 : Nat) (r1 : Option Nat) (z : gS) : Option (Int32 × gS) :=
    g_n r1 (
    some ((-1), z)) (fun a_1 =>
    (g_fR z a_1 4 1).bind fun r_2 =>
    (g_fR z a0 8 4).bind fun r_3 =>
    r_3.bind fun a_4 =>
    (g_is z a_4 0).bind fun _ =>
    g_bp (fText_length n a_4 z) fun v_7 z_6 =>
    r_2.bind fun a_8 =>
    (g_is z_6 a_8 3).bind fun _ =>
    g_bp (fLog_takes n a_8 v_7 z_6) fun v_11 z_10 =>
    if v_11 = 0 then (
    some ((-1), z_10))
    else (
    (g_fR z_10 a0 8 4).bind fun r_13 =>
    r_13.bind fun a_14 =>
    (g_is z_10 a_14 0).bind fun _ =>
    g_bp (fText_length n a_14 z_10) fun v_17 z_16 =>
    if v_17 ≤ 0 then (
    (g_fR z_16 a0 8 4).bind fun r_19 =>
    r_19.bind fun a_20 =>
    (g_is z_16 a_20 0).bind fun _ =>
    g_bp (fText_length n a_20 z_16) fun v_23 z_22 =>
    some (v_23, z_22))
    else (
    (g_is z_16 a0 8).bind fun _ =>
    (fMain_gatherForms n a0 z_16).bind fun z_25 =>
    (g_fR z_25 a_1 4 1).bind fun r_26 =>
    (g_fR z_25 a0 8 4).bind fun r_27 =>
    (g_fR z_25 a0 8 5).bind fun r_28 =>
    r_28.bind fun a_29 =>
    r_27.bind fun a_30 =>
    r_26.bind fun a_31 =>
    (g_is z_25 a_31 3).bind fun _ =>
    (fLog_come n a_31 a_30 a_29 z_25).bind fun z_33 =>
    (g_fR z_33 a0 8 4).bind fun r_34 =>
    r_34.bind fun a_35 =>
    (g_is z_33 a_35 0).bind fun _ =>
    g_bp (fText_length n a_35 z_33) fun v_38 z_37 =>
    some (v_38, z_37))))
set_option maxHeartbeats 4000000 in
set_option maxRecDepth 100000 in
theorem mMain_logFromTape (l : Launch) (D : va_G) (A : Nat → Prop) (n : Nat) (z z' : gS) (a0 : Nat) (r1 : Option Nat) (r : Int32) (hf : fMain_logFromTape n a0 r1 z = some (r, z')) : Met l yMain_logFromTape wsMain_logFromTape ({ frames := 5, cells := 0, slots := 0, locals := 118 }) (g_P D vwCl gNN gOO A z [.ref a0, va_rf r1]) (g_Qi D vwCl A r z') 0 0 A := by
  refine Met.ofW (cc := cMain_logFromTape) (maxL := 2) (ret := (some .int)) (by decide) rfl ?_
  intro p e s m args below meth c s₁ B hml hv
  obtain ⟨rfl, hW, hK, hA0⟩ := hv
  have C : g_C p s m meth c _ cMain_logFromTape 2 (some .int) "SecretRows" gW D vwCl gNN gOO A := ⟨B.exec, B.bytes, B.returns, hml, findClass_of_methodNamed B.named, fun w hw => atoms_spec (ws := wsMain_logFromTape) B.pre w (List.mem_cons_of_mem _ hw), B.notSynchronized, hK, fun q hq => hA0 q (by rw [← hW.1]; exact hq)⟩
  have hS : va_S A s.heap s.heap [] := va_S.rf
  have hl := lv_entry ([.ref a0, va_rf r1]) (n := 2) (by cases r1 <;> exact Nat.le_of_ble_eq_true rfl)
  rw [lg_entry_eq]
  generalize (lg_sl ([.ref a0, va_rf r1]) ++ List.replicate (2 - (lg_sl ([.ref a0, va_rf r1])).length) Slot.unset).toArray = ls at hl ⊢
  have hl : lv_has ls 2 [(0, .ref a0), (1, va_rf r1)] := by cases r1 <;> exact hl
  obtain ⟨hx, hb, hr, hml, hown, hts, hlocks, hK, hA⟩ := id C
  unfold fMain_logFromTape at hf
  refine g_aload_n hx hb dMain_logFromTape_0 rfl (lv_at hl 1 rfl) ?_
  cases r1 with
  | none =>
    replace hf := g_n0 hf
    replace hl : lv_has _ 2 [(0, .ref a0), (1, .null)] := hl
    refine W.eq (g2 := F0 m 1 _ [.null]) rfl ?_
    refine lv_ifnullN (tgt := 21) hx hb dMain_logFromTape_1 (by decide) ?_
    refine lv_iconst (v := (-1)) hx hb dMain_logFromTape_21 (by decide) ?_
    cases hf
    exact g_reti hx hb hr hlocks hW hS (Nat.le_of_ble_eq_true rfl) (Nat.le_of_ble_eq_true rfl) dMain_logFromTape_22
  | some a_1 =>
    replace hf := g_n1 hf
    replace hl : lv_has _ 2 [(0, .ref a0), (1, .ref a_1)] := hl
    refine W.eq (g2 := F0 m 1 _ [.ref a_1]) rfl ?_
    refine lv_ifnull hx hb dMain_logFromTape_1 ?_
    refine lv_aload_n hx hb dMain_logFromTape_4 rfl (lv_at hl 1 rfl) ?_
    replace hf := g_bd hf
    obtain ⟨r_2, hr_2, hf⟩ := hf
    refine g_getRN hx hb hts in_Step hown hK hW (ci := 4) (C := "SecretRows$Step") (T := T_Step) (N := 2) rfl (k := 1) (by decide) (host := "SecretRows") kw_318 (fun _ h9 => h9) hr_2 dMain_logFromTape_5 ?_
    refine lv_aload_n hx hb dMain_logFromTape_8 rfl (lv_at hl 0 rfl) ?_
    replace hf := g_bd hf
    obtain ⟨r_3, hr_3, hf⟩ := hf
    refine g_getR hx hb hts in_Main hown hK hW (ci := 8) (C := "SecretRows") (T := T_Main) (N := 14) rfl (k := 4) (by decide) (hts _ kw_85) (fun _ h9 => h9) hr_3 dMain_logFromTape_9 ?_
    replace hf := g_bd hf
    obtain ⟨a_4, ea_4, hf⟩ := hf
    subst ea_4
    refine W.eq (g2 := F0 m 12 _ [.ref a_4, va_rf r_2]) rfl ?_
    replace hf := g_bd hf
    obtain ⟨_, hi_5, hf⟩ := hf
    replace hf := g_bps hf
    obtain ⟨v_7, z_6, hz_6, hf⟩ := hf
    refine g_goi (g_rV (As := []) (rest := [va_rf r_2]) ⟨hx, hb, hml, hown, hts⟩ (mText_length l D A n _ _ a_4 _ hz_6) (cwV 0 hts (gi_V kw_183 kw_184 kw_185 kw_3 kw_186) rfl rfl rfl ⟨rfl, hdText_length⟩ ⟨Nat.le_of_ble_eq_true rfl, Nat.le_of_ble_eq_true rfl⟩) hK hW hS hA (ci := 0) (T := T_Text) (N := 2) rfl hi_5 rfl hl.1 rfl (by simp only [List.map_cons, List.map_nil, g_cat]; exact Nat.le_of_ble_eq_true rfl) dMain_logFromTape_12 ⟨Nat.le_of_ble_eq_true rfl, Nat.le_of_ble_eq_true rfl⟩) hS (fun H locs hW hS => ?_)
    replace hf := g_bd hf
    obtain ⟨a_8, ea_8, hf⟩ := hf
    subst ea_8
    refine W.eq (g2 := F0 m 15 _ [.int v_7, .ref a_8]) rfl ?_
    replace hf := g_bd hf
    obtain ⟨_, hi_9, hf⟩ := hf
    replace hf := g_bps hf
    obtain ⟨v_11, z_10, hz_10, hf⟩ := hf
    refine g_goi (g_rV (As := [.int v_7]) (rest := []) ⟨hx, hb, hml, hown, hts⟩ (mLog_takes l D A n _ _ a_8 v_7 _ hz_10) (cwV 1 hts (gi_V kw_381 kw_382 kw_383 kw_10 kw_384) rfl rfl rfl ⟨rfl, hdLog_takes⟩ ⟨Nat.le_of_ble_eq_true rfl, Nat.le_of_ble_eq_true rfl⟩) hK hW hS hA (ci := 3) (T := T_Log) (N := 5) rfl hi_9 rfl hl.1 rfl (Nat.le_of_ble_eq_true rfl) dMain_logFromTape_15 ⟨Nat.le_of_ble_eq_true rfl, Nat.le_of_ble_eq_true rfl⟩) hS (fun H locs hW hS => ?_)
    refine lv_if_ne (tgt := 23) hx hb dMain_logFromTape_18 (by decide) (fun c_12 => ?_) (fun c_12 => ?_)
    · replace hf := g_if c_12 hf
      refine lv_aload_n hx hb dMain_logFromTape_23 rfl (lv_at hl 0 rfl) ?_
      replace hf := g_bd hf
      obtain ⟨r_13, hr_13, hf⟩ := hf
      refine g_getR hx hb hts in_Main hown hK hW (ci := 8) (C := "SecretRows") (T := T_Main) (N := 14) rfl (k := 4) (by decide) (hts _ kw_85) (fun _ h9 => h9) hr_13 dMain_logFromTape_24 ?_
      replace hf := g_bd hf
      obtain ⟨a_14, ea_14, hf⟩ := hf
      subst ea_14
      refine W.eq (g2 := F0 m 27 _ [.ref a_14]) rfl ?_
      replace hf := g_bd hf
      obtain ⟨_, hi_15, hf⟩ := hf
      replace hf := g_bps hf
      obtain ⟨v_17, z_16, hz_16, hf⟩ := hf
      refine g_goi (g_rV (As := []) (rest := []) ⟨hx, hb, hml, hown, hts⟩ (mText_length l D A n _ _ a_14 _ hz_16) (cwV 0 hts (gi_V kw_183 kw_184 kw_185 kw_3 kw_186) rfl rfl rfl ⟨rfl, hdText_length⟩ ⟨Nat.le_of_ble_eq_true rfl, Nat.le_of_ble_eq_true rfl⟩) hK hW hS hA (ci := 0) (T := T_Text) (N := 2) rfl hi_15 rfl hl.1 rfl (Nat.le_of_ble_eq_true rfl) dMain_logFromTape_27 ⟨Nat.le_of_ble_eq_true rfl, Nat.le_of_ble_eq_true rfl⟩) hS (fun H locs hW hS => ?_)
      refine lv_if_le (tgt := 52) hx hb dMain_logFromTape_30 (by decide) (fun c_18 => ?_) (fun c_18 => ?_)
      · replace hf := g_it c_18 hf
        refine lv_aload_n hx hb dMain_logFromTape_52 rfl (lv_at hl 0 rfl) ?_
        replace hf := g_bd hf
        obtain ⟨r_19, hr_19, hf⟩ := hf
        refine g_getR hx hb hts in_Main hown hK hW (ci := 8) (C := "SecretRows") (T := T_Main) (N := 14) rfl (k := 4) (by decide) (hts _ kw_85) (fun _ h9 => h9) hr_19 dMain_logFromTape_53 ?_
        replace hf := g_bd hf
        obtain ⟨a_20, ea_20, hf⟩ := hf
        subst ea_20
        refine W.eq (g2 := F0 m 56 _ [.ref a_20]) rfl ?_
        replace hf := g_bd hf
        obtain ⟨_, hi_21, hf⟩ := hf
        replace hf := g_bps hf
        obtain ⟨v_23, z_22, hz_22, hf⟩ := hf
        refine g_goi (g_rV (As := []) (rest := []) ⟨hx, hb, hml, hown, hts⟩ (mText_length l D A n _ _ a_20 _ hz_22) (cwV 0 hts (gi_V kw_183 kw_184 kw_185 kw_3 kw_186) rfl rfl rfl ⟨rfl, hdText_length⟩ ⟨Nat.le_of_ble_eq_true rfl, Nat.le_of_ble_eq_true rfl⟩) hK hW hS hA (ci := 0) (T := T_Text) (N := 2) rfl hi_21 rfl hl.1 rfl (Nat.le_of_ble_eq_true rfl) dMain_logFromTape_56 ⟨Nat.le_of_ble_eq_true rfl, Nat.le_of_ble_eq_true rfl⟩) hS (fun H locs hW hS => ?_)
        cases hf
        exact g_reti hx hb hr hlocks hW hS (Nat.le_of_ble_eq_true rfl) (Nat.le_of_ble_eq_true rfl) dMain_logFromTape_59
      · replace hf := g_if c_18 hf
        refine lv_aload_n hx hb dMain_logFromTape_33 rfl (lv_at hl 0 rfl) ?_
        replace hf := g_bd hf
        obtain ⟨_, hi_24, hf⟩ := hf
        replace hf := g_bd hf
        obtain ⟨z_25, hz_25, hf⟩ := hf
        refine g_gov (g_rV (As := []) (rest := []) ⟨hx, hb, hml, hown, hts⟩ (mMain_gatherForms l D A n _ _ a0 hz_25) (cwV 0 hts (gi_V kw_386 kw_388 ks_Main_gatherForms kw_1 kw_389) rfl rfl rfl ⟨rfl, hdMain_gatherForms⟩ ⟨Nat.le_of_ble_eq_true rfl, Nat.le_of_ble_eq_true rfl⟩) hK hW hS hA (ci := 8) (T := T_Main) (N := 14) rfl hi_24 rfl hl.1 rfl (Nat.le_of_ble_eq_true rfl) dMain_logFromTape_34 ⟨Nat.le_of_ble_eq_true rfl, Nat.le_of_ble_eq_true rfl⟩) hS (fun H locs hW hS => ?_)
        refine lv_aload_n hx hb dMain_logFromTape_37 rfl (lv_at hl 1 rfl) ?_
        replace hf := g_bd hf
        obtain ⟨r_26, hr_26, hf⟩ := hf
        refine g_getRN hx hb hts in_Step hown hK hW (ci := 4) (C := "SecretRows$Step") (T := T_Step) (N := 2) rfl (k := 1) (by decide) (host := "SecretRows") kw_318 (fun _ h9 => h9) hr_26 dMain_logFromTape_38 ?_
        refine lv_aload_n hx hb dMain_logFromTape_41 rfl (lv_at hl 0 rfl) ?_
        replace hf := g_bd hf
        obtain ⟨r_27, hr_27, hf⟩ := hf
        refine g_getR hx hb hts in_Main hown hK hW (ci := 8) (C := "SecretRows") (T := T_Main) (N := 14) rfl (k := 4) (by decide) (hts _ kw_85) (fun _ h9 => h9) hr_27 dMain_logFromTape_42 ?_
        refine lv_aload_n hx hb dMain_logFromTape_45 rfl (lv_at hl 0 rfl) ?_
        replace hf := g_bd hf
        obtain ⟨r_28, hr_28, hf⟩ := hf
        refine g_getR hx hb hts in_Main hown hK hW (ci := 8) (C := "SecretRows") (T := T_Main) (N := 14) rfl (k := 5) (by decide) (hts _ kw_86) (fun _ h9 => h9) hr_28 dMain_logFromTape_46 ?_
        replace hf := g_bd hf
        obtain ⟨a_29, ea_29, hf⟩ := hf
        subst ea_29
        refine W.eq (g2 := F0 m 49 _ [.ref a_29, va_rf r_27, va_rf r_26]) rfl ?_
        replace hf := g_bd hf
        obtain ⟨a_30, ea_30, hf⟩ := hf
        subst ea_30
        refine W.eq (g2 := F0 m 49 _ [.ref a_29, .ref a_30, va_rf r_26]) rfl ?_
        replace hf := g_bd hf
        obtain ⟨a_31, ea_31, hf⟩ := hf
        subst ea_31
        refine W.eq (g2 := F0 m 49 _ [.ref a_29, .ref a_30, .ref a_31]) rfl ?_
        replace hf := g_bd hf
        obtain ⟨_, hi_32, hf⟩ := hf
        replace hf := g_bd hf
        obtain ⟨z_33, hz_33, hf⟩ := hf
        refine g_gov (g_rV (As := [.ref a_30, .ref a_29]) (rest := []) ⟨hx, hb, hml, hown, hts⟩ (mLog_come l D A n _ _ a_31 a_30 a_29 hz_33) (cwV 2 hts (gi_V kw_402 kw_403 kw_404 kw_10 kw_405) rfl rfl rfl ⟨rfl, hdLog_come⟩ ⟨Nat.le_of_ble_eq_true rfl, Nat.le_of_ble_eq_true rfl⟩) hK hW hS hA (ci := 3) (T := T_Log) (N := 5) rfl hi_32 rfl hl.1 rfl (Nat.le_of_ble_eq_true rfl) dMain_logFromTape_49 ⟨Nat.le_of_ble_eq_true rfl, Nat.le_of_ble_eq_true rfl⟩) hS (fun H locs hW hS => ?_)
        refine lv_aload_n hx hb dMain_logFromTape_52 rfl (lv_at hl 0 rfl) ?_
        replace hf := g_bd hf
        obtain ⟨r_34, hr_34, hf⟩ := hf
        refine g_getR hx hb hts in_Main hown hK hW (ci := 8) (C := "SecretRows") (T := T_Main) (N := 14) rfl (k := 4) (by decide) (hts _ kw_85) (fun _ h9 => h9) hr_34 dMain_logFromTape_53 ?_
        replace hf := g_bd hf
        obtain ⟨a_35, ea_35, hf⟩ := hf
        subst ea_35
        refine W.eq (g2 := F0 m 56 _ [.ref a_35]) rfl ?_
        replace hf := g_bd hf
        obtain ⟨_, hi_36, hf⟩ := hf
        replace hf := g_bps hf
        obtain ⟨v_38, z_37, hz_37, hf⟩ := hf
        refine g_goi (g_rV (As := []) (rest := []) ⟨hx, hb, hml, hown, hts⟩ (mText_length l D A n _ _ a_35 _ hz_37) (cwV 0 hts (gi_V kw_183 kw_184 kw_185 kw_3 kw_186) rfl rfl rfl ⟨rfl, hdText_length⟩ ⟨Nat.le_of_ble_eq_true rfl, Nat.le_of_ble_eq_true rfl⟩) hK hW hS hA (ci := 0) (T := T_Text) (N := 2) rfl hi_36 rfl hl.1 rfl (Nat.le_of_ble_eq_true rfl) dMain_logFromTape_56 ⟨Nat.le_of_ble_eq_true rfl, Nat.le_of_ble_eq_true rfl⟩) hS (fun H locs hW hS => ?_)
        cases hf
        exact g_reti hx hb hr hlocks hW hS (Nat.le_of_ble_eq_true rfl) (Nat.le_of_ble_eq_true rfl) dMain_logFromTape_59
    · replace hf := g_it c_12 hf
      refine lv_iconst (v := (-1)) hx hb dMain_logFromTape_21 (by decide) ?_
      cases hf
      exact g_reti hx hb hr hlocks hW hS (Nat.le_of_ble_eq_true rfl) (Nat.le_of_ble_eq_true rfl) dMain_logFromTape_22

def fMain_log (n : Nat) (a0 : Nat) (i1 : Int32) (z : gS) : Option (Int32 × gS) :=
    (g_is z a0 8).bind fun _ =>
    g_bp (fMain_findStep n a0 i1 z) fun r_3 z_2 =>
    (g_is z_2 a0 8).bind fun _ =>
    g_bp (fMain_logFromTape n a0 r_3 z_2) fun v_6 z_5 =>
    (g_fR z_5 a0 8 4).bind fun r_7 =>
    r_7.bind fun a_8 =>
    (g_is z_5 a_8 0).bind fun _ =>
    (fText_clear n a_8 z_5).bind fun z_10 =>
    some (v_6, z_10)
set_option maxHeartbeats 4000000 in
set_option maxRecDepth 100000 in
theorem mMain_log (l : Launch) (D : va_G) (A : Nat → Prop) (n : Nat) (z z' : gS) (a0 : Nat) (i1 : Int32) (r : Int32) (hf : fMain_log n a0 i1 z = some (r, z')) : Met l yMain_log wsMain_log ({ frames := 6, cells := 0, slots := 0, locals := 139 }) (g_P D vwCl gNN gOO A z [.ref a0, .int i1]) (g_Qi D vwCl A r z') 0 0 A := by
  refine Met.ofW (cc := cMain_log) (maxL := 3) (ret := (some .int)) (by decide) rfl ?_
  intro p e s m args below meth c s₁ B hml hv
  obtain ⟨rfl, hW, hK, hA0⟩ := hv
  have C : g_C p s m meth c _ cMain_log 3 (some .int) "SecretRows" gW D vwCl gNN gOO A := ⟨B.exec, B.bytes, B.returns, hml, findClass_of_methodNamed B.named, fun w hw => atoms_spec (ws := wsMain_log) B.pre w (List.mem_cons_of_mem _ hw), B.notSynchronized, hK, fun q hq => hA0 q (by rw [← hW.1]; exact hq)⟩
  have hS : va_S A s.heap s.heap [] := va_S.rf
  have hl := lv_entry ([.ref a0, .int i1]) (n := 3) (Nat.le_of_ble_eq_true rfl)
  rw [lg_entry_eq]
  generalize (lg_sl ([.ref a0, .int i1]) ++ List.replicate (3 - (lg_sl ([.ref a0, .int i1])).length) Slot.unset).toArray = ls at hl ⊢
  have hl : lv_has ls 3 [(0, .ref a0), (1, .int i1)] := hl
  obtain ⟨hx, hb, hr, hml, hown, hts, hlocks, hK, hA⟩ := id C
  unfold fMain_log at hf
  refine lv_aload_n hx hb dMain_log_0 rfl (lv_at hl 0 rfl) ?_
  refine lv_aload_n hx hb dMain_log_1 rfl (lv_at hl 0 rfl) ?_
  refine lv_iload_n hx hb dMain_log_2 rfl (lv_at hl 1 rfl) ?_
  replace hf := g_bd hf
  obtain ⟨_, hi_1, hf⟩ := hf
  replace hf := g_bps hf
  obtain ⟨r_3, z_2, hz_2, hf⟩ := hf
  refine g_goq (g_rV (As := [.int i1]) (rest := [.ref a0]) ⟨hx, hb, hml, hown, hts⟩ (mMain_findStep l D A n _ _ a0 i1 _ hz_2) (cwV 1 hts (gi_V kw_340 kw_342 ks_Main_findStep kw_1 kw_343) rfl rfl rfl ⟨rfl, hdMain_findStep⟩ ⟨Nat.le_of_ble_eq_true rfl, Nat.le_of_ble_eq_true rfl⟩) hK hW hS hA (ci := 8) (T := T_Main) (N := 14) rfl hi_1 rfl hl.1 rfl (Nat.le_of_ble_eq_true rfl) dMain_log_3 ⟨Nat.le_of_ble_eq_true rfl, Nat.le_of_ble_eq_true rfl⟩) hS (fun H locs hW hS => ?_)
  replace hf := g_bd hf
  obtain ⟨_, hi_4, hf⟩ := hf
  replace hf := g_bps hf
  obtain ⟨v_6, z_5, hz_5, hf⟩ := hf
  refine g_goi (g_rV (As := [va_rf r_3]) (rest := []) ⟨hx, hb, hml, hown, hts⟩ (mMain_logFromTape l D A n _ _ a0 r_3 _ hz_5) (cwV 1 hts (gi_V kw_377 kw_379 ks_Main_logFromTape kw_1 kw_380) rfl rfl rfl ⟨rfl, hdMain_logFromTape⟩ ⟨Nat.le_of_ble_eq_true rfl, Nat.le_of_ble_eq_true rfl⟩) hK hW hS hA (ci := 8) (T := T_Main) (N := 14) rfl hi_4 rfl hl.1 rfl (Nat.le_of_ble_eq_true rfl) dMain_log_6 ⟨Nat.le_of_ble_eq_true rfl, Nat.le_of_ble_eq_true rfl⟩) hS (fun H locs hW hS => ?_)
  refine lv_istore_n (lv' := [(2, .int v_6), (0, .ref a0), (1, .int i1)]) hx hb dMain_log_9 rfl hl (by decide) rfl (fun _ hl1 => ?_)
  clear hl
  have hl := hl1
  clear hl1
  refine lv_aload_n hx hb dMain_log_10 rfl (lv_at hl 1 rfl) ?_
  replace hf := g_bd hf
  obtain ⟨r_7, hr_7, hf⟩ := hf
  refine g_getR hx hb hts in_Main hown hK hW (ci := 8) (C := "SecretRows") (T := T_Main) (N := 14) rfl (k := 4) (by decide) (hts _ kw_85) (fun _ h9 => h9) hr_7 dMain_log_11 ?_
  replace hf := g_bd hf
  obtain ⟨a_8, ea_8, hf⟩ := hf
  subst ea_8
  refine W.eq (g2 := F0 m 14 _ [.ref a_8]) rfl ?_
  replace hf := g_bd hf
  obtain ⟨_, hi_9, hf⟩ := hf
  replace hf := g_bd hf
  obtain ⟨z_10, hz_10, hf⟩ := hf
  refine g_gov (g_rV (As := []) (rest := []) ⟨hx, hb, hml, hown, hts⟩ (mText_clear l D A n _ _ a_8 hz_10) (cwV 0 hts (gi_V kw_262 kw_263 kw_264 kw_3 kw_265) rfl rfl rfl ⟨rfl, hdText_clear⟩ ⟨Nat.le_of_ble_eq_true rfl, Nat.le_of_ble_eq_true rfl⟩) hK hW hS hA (ci := 0) (T := T_Text) (N := 2) rfl hi_9 rfl hl.1 rfl (Nat.le_of_ble_eq_true rfl) dMain_log_14 ⟨Nat.le_of_ble_eq_true rfl, Nat.le_of_ble_eq_true rfl⟩) hS (fun H locs hW hS => ?_)
  refine lv_iload_n hx hb dMain_log_17 rfl (lv_at hl 0 rfl) ?_
  cases hf
  exact g_reti hx hb hr hlocks hW hS (Nat.le_of_ble_eq_true rfl) (Nat.le_of_ble_eq_true rfl) dMain_log_18

def fLog_end (n : Nat) (a0 : Nat) (a1 : Nat) (z : gS) : Option (gS) :=
    (g_is z a0 3).bind fun _ =>
    (fLog_cover n a0 a1 1 z).bind fun z_2 =>
    (g_pF z_2 a0 3 4 (.int 1)).bind fun z_3 =>
    some z_3
set_option maxHeartbeats 4000000 in
set_option maxRecDepth 100000 in
theorem mLog_end (l : Launch) (D : va_G) (A : Nat → Prop) (n : Nat) (z z' : gS) (a0 : Nat) (a1 : Nat) (hf : fLog_end n a0 a1 z = some z') : Met l yLog_end wsLog_end ({ frames := 4, cells := 0, slots := 0, locals := 96 }) (g_P D vwCl gNN gOO A z [.ref a0, .ref a1]) (g_Qv D vwCl A z') 0 0 A := by
  refine Met.ofW (cc := cLog_end) (maxL := 2) (ret := none) (by decide) rfl ?_
  intro p e s m args below meth c s₁ B hml hv
  obtain ⟨rfl, hW, hK, hA0⟩ := hv
  have C : g_C p s m meth c _ cLog_end 2 none "SecretRows$Log" gW D vwCl gNN gOO A := ⟨B.exec, B.bytes, B.returns, hml, findClass_of_methodNamed B.named, fun w hw => atoms_spec (ws := wsLog_end) B.pre w (List.mem_cons_of_mem _ hw), B.notSynchronized, hK, fun q hq => hA0 q (by rw [← hW.1]; exact hq)⟩
  have hS : va_S A s.heap s.heap [] := va_S.rf
  have hl := lv_entry ([.ref a0, .ref a1]) (n := 2) (Nat.le_of_ble_eq_true rfl)
  rw [lg_entry_eq]
  generalize (lg_sl ([.ref a0, .ref a1]) ++ List.replicate (2 - (lg_sl ([.ref a0, .ref a1])).length) Slot.unset).toArray = ls at hl ⊢
  have hl : lv_has ls 2 [(0, .ref a0), (1, .ref a1)] := hl
  obtain ⟨hx, hb, hr, hml, hown, hts, hlocks, hK, hA⟩ := id C
  unfold fLog_end at hf
  refine lv_aload_n hx hb dLog_end_0 rfl (lv_at hl 0 rfl) ?_
  refine lv_aload_n hx hb dLog_end_1 rfl (lv_at hl 1 rfl) ?_
  refine lv_iconst (v := 1) hx hb dLog_end_2 (by decide) ?_
  replace hf := g_bd hf
  obtain ⟨_, hi_1, hf⟩ := hf
  replace hf := g_bd hf
  obtain ⟨z_2, hz_2, hf⟩ := hf
  refine g_gov (g_rV (As := [.ref a1, .int 1]) (rest := []) ⟨hx, hb, hml, hown, hts⟩ (mLog_cover l D A n _ _ a0 a1 1 hz_2) (cwV 2 hts (gi_V kw_407 kw_409 ks_Log_cover kw_10 kw_410) rfl rfl rfl ⟨rfl, hdLog_cover⟩ ⟨Nat.le_of_ble_eq_true rfl, Nat.le_of_ble_eq_true rfl⟩) hK hW hS hA (ci := 3) (T := T_Log) (N := 5) rfl hi_1 rfl hl.1 rfl (Nat.le_of_ble_eq_true rfl) dLog_end_3 ⟨Nat.le_of_ble_eq_true rfl, Nat.le_of_ble_eq_true rfl⟩) hS (fun H locs hW hS => ?_)
  refine lv_aload_n hx hb dLog_end_6 rfl (lv_at hl 0 rfl) ?_
  refine lv_iconst (v := 1) hx hb dLog_end_7 (by decide) ?_
  replace hf := g_bd hf
  obtain ⟨z_3, hz_3, hf⟩ := hf
  refine g_put hx hb hts in_Log ty_Log tyok_Log nm_Log hown hK hW hS (ci := 3) (C := "SecretRows$Log") (T := T_Log) (N := 5) rfl (k := 4) (by decide) (hts _ kw_303) (fun _ h9 => h9) rfl (ty := .boolean) (by decide +kernel) rfl rfl hz_3 dLog_end_8 (fun H locs hW hS => ?_)
  cases hf
  exact g_retv hx hb hr hlocks hW hS (Nat.le_of_ble_eq_true rfl) (Nat.le_of_ble_eq_true rfl) dLog_end_11

def fMain_close (n : Nat) (a0 : Nat) (i1 : Int32) (z : gS) : Option (Int32 × gS) :=
    (g_is z a0 8).bind fun _ =>
    g_bp (fMain_findStep n a0 i1 z) fun r_3 z_2 =>
    g_n r_3 (
    some ((-1), z_2)) (fun a_4 =>
    (g_fR z_2 a_4 4 1).bind fun r_5 =>
    r_5.bind fun a_6 =>
    (g_fI z_2 a_6 3 4).bind fun v_7 =>
    if v_7 = 0 then (
    (g_is z_2 a0 8).bind fun _ =>
    (fMain_gatherForms n a0 z_2).bind fun z_10 =>
    (g_fR z_10 a_4 4 1).bind fun r_11 =>
    (g_fR z_10 a0 8 5).bind fun r_12 =>
    r_12.bind fun a_13 =>
    r_11.bind fun a_14 =>
    (g_is z_10 a_14 3).bind fun _ =>
    (fLog_end n a_14 a_13 z_10).bind fun z_16 =>
    (g_fR z_16 a_4 4 1).bind fun r_17 =>
    r_17.bind fun a_18 =>
    (g_fR z_16 a_18 3 1).bind fun r_19 =>
    r_19.bind fun a_20 =>
    (g_is z_16 a_20 0).bind fun _ =>
    g_bp (fText_length n a_20 z_16) fun v_23 z_22 =>
    some (v_23, z_22))
    else (
    some ((-1), z_2)))
set_option maxHeartbeats 4000000 in
set_option maxRecDepth 100000 in
theorem mMain_close (l : Launch) (D : va_G) (A : Nat → Prop) (n : Nat) (z z' : gS) (a0 : Nat) (i1 : Int32) (r : Int32) (hf : fMain_close n a0 i1 z = some (r, z')) : Met l yMain_close wsMain_close ({ frames := 5, cells := 0, slots := 0, locals := 117 }) (g_P D vwCl gNN gOO A z [.ref a0, .int i1]) (g_Qi D vwCl A r z') 0 0 A := by
  refine Met.ofW (cc := cMain_close) (maxL := 3) (ret := (some .int)) (by decide) rfl ?_
  intro p e s m args below meth c s₁ B hml hv
  obtain ⟨rfl, hW, hK, hA0⟩ := hv
  have C : g_C p s m meth c _ cMain_close 3 (some .int) "SecretRows" gW D vwCl gNN gOO A := ⟨B.exec, B.bytes, B.returns, hml, findClass_of_methodNamed B.named, fun w hw => atoms_spec (ws := wsMain_close) B.pre w (List.mem_cons_of_mem _ hw), B.notSynchronized, hK, fun q hq => hA0 q (by rw [← hW.1]; exact hq)⟩
  have hS : va_S A s.heap s.heap [] := va_S.rf
  have hl := lv_entry ([.ref a0, .int i1]) (n := 3) (Nat.le_of_ble_eq_true rfl)
  rw [lg_entry_eq]
  generalize (lg_sl ([.ref a0, .int i1]) ++ List.replicate (3 - (lg_sl ([.ref a0, .int i1])).length) Slot.unset).toArray = ls at hl ⊢
  have hl : lv_has ls 3 [(0, .ref a0), (1, .int i1)] := hl
  obtain ⟨hx, hb, hr, hml, hown, hts, hlocks, hK, hA⟩ := id C
  unfold fMain_close at hf
  refine lv_aload_n hx hb dMain_close_0 rfl (lv_at hl 0 rfl) ?_
  refine lv_iload_n hx hb dMain_close_1 rfl (lv_at hl 1 rfl) ?_
  replace hf := g_bd hf
  obtain ⟨_, hi_1, hf⟩ := hf
  replace hf := g_bps hf
  obtain ⟨r_3, z_2, hz_2, hf⟩ := hf
  refine g_goq (g_rV (As := [.int i1]) (rest := []) ⟨hx, hb, hml, hown, hts⟩ (mMain_findStep l D A n _ _ a0 i1 _ hz_2) (cwV 1 hts (gi_V kw_340 kw_342 ks_Main_findStep kw_1 kw_343) rfl rfl rfl ⟨rfl, hdMain_findStep⟩ ⟨Nat.le_of_ble_eq_true rfl, Nat.le_of_ble_eq_true rfl⟩) hK hW hS hA (ci := 8) (T := T_Main) (N := 14) rfl hi_1 rfl hl.1 rfl (Nat.le_of_ble_eq_true rfl) dMain_close_2 ⟨Nat.le_of_ble_eq_true rfl, Nat.le_of_ble_eq_true rfl⟩) hS (fun H locs hW hS => ?_)
  refine g_astore_n (lv' := [(2, va_rf r_3), (0, .ref a0), (1, .int i1)]) hx hb dMain_close_5 rfl hl (by decide) rfl (fun _ hl1 => ?_)
  clear hl
  have hl := hl1
  clear hl1
  refine g_aload_n hx hb dMain_close_6 rfl (lv_at hl 0 rfl) ?_
  cases r_3 with
  | none =>
    replace hf := g_n0 hf
    replace hl : lv_has _ 3 [(2, .null), (0, .ref a0), (1, .int i1)] := hl
    refine W.eq (g2 := F0 m 7 _ [.null]) rfl ?_
    refine lv_ifnullN (tgt := 20) hx hb dMain_close_7 (by decide) ?_
    refine lv_iconst (v := (-1)) hx hb dMain_close_20 (by decide) ?_
    cases hf
    exact g_reti hx hb hr hlocks hW hS (Nat.le_of_ble_eq_true rfl) (Nat.le_of_ble_eq_true rfl) dMain_close_21
  | some a_4 =>
    replace hf := g_n1 hf
    replace hl : lv_has _ 3 [(2, .ref a_4), (0, .ref a0), (1, .int i1)] := hl
    refine W.eq (g2 := F0 m 7 _ [.ref a_4]) rfl ?_
    refine lv_ifnull hx hb dMain_close_7 ?_
    refine lv_aload_n hx hb dMain_close_10 rfl (lv_at hl 0 rfl) ?_
    replace hf := g_bd hf
    obtain ⟨r_5, hr_5, hf⟩ := hf
    refine g_getRN hx hb hts in_Step hown hK hW (ci := 4) (C := "SecretRows$Step") (T := T_Step) (N := 2) rfl (k := 1) (by decide) (host := "SecretRows") kw_318 (fun _ h9 => h9) hr_5 dMain_close_11 ?_
    replace hf := g_bd hf
    obtain ⟨a_6, ea_6, hf⟩ := hf
    subst ea_6
    refine W.eq (g2 := F0 m 14 _ [.ref a_6]) rfl ?_
    replace hf := g_bd hf
    obtain ⟨v_7, hv_7, hf⟩ := hf
    refine g_getIN hx hb hts in_Log hown hK hW (ci := 3) (C := "SecretRows$Log") (T := T_Log) (N := 5) rfl (k := 4) (by decide) (host := "SecretRows") kw_304 (fun _ h9 => h9) hv_7 dMain_close_14 ?_
    refine lv_if_eq (tgt := 22) hx hb dMain_close_17 (by decide) (fun c_8 => ?_) (fun c_8 => ?_)
    · replace hf := g_it c_8 hf
      refine lv_aload_n hx hb dMain_close_22 rfl (lv_at hl 1 rfl) ?_
      replace hf := g_bd hf
      obtain ⟨_, hi_9, hf⟩ := hf
      replace hf := g_bd hf
      obtain ⟨z_10, hz_10, hf⟩ := hf
      refine g_gov (g_rV (As := []) (rest := []) ⟨hx, hb, hml, hown, hts⟩ (mMain_gatherForms l D A n _ _ a0 hz_10) (cwV 0 hts (gi_V kw_386 kw_388 ks_Main_gatherForms kw_1 kw_389) rfl rfl rfl ⟨rfl, hdMain_gatherForms⟩ ⟨Nat.le_of_ble_eq_true rfl, Nat.le_of_ble_eq_true rfl⟩) hK hW hS hA (ci := 8) (T := T_Main) (N := 14) rfl hi_9 rfl hl.1 rfl (Nat.le_of_ble_eq_true rfl) dMain_close_23 ⟨Nat.le_of_ble_eq_true rfl, Nat.le_of_ble_eq_true rfl⟩) hS (fun H locs hW hS => ?_)
      refine lv_aload_n hx hb dMain_close_26 rfl (lv_at hl 0 rfl) ?_
      replace hf := g_bd hf
      obtain ⟨r_11, hr_11, hf⟩ := hf
      refine g_getRN hx hb hts in_Step hown hK hW (ci := 4) (C := "SecretRows$Step") (T := T_Step) (N := 2) rfl (k := 1) (by decide) (host := "SecretRows") kw_318 (fun _ h9 => h9) hr_11 dMain_close_27 ?_
      refine lv_aload_n hx hb dMain_close_30 rfl (lv_at hl 1 rfl) ?_
      replace hf := g_bd hf
      obtain ⟨r_12, hr_12, hf⟩ := hf
      refine g_getR hx hb hts in_Main hown hK hW (ci := 8) (C := "SecretRows") (T := T_Main) (N := 14) rfl (k := 5) (by decide) (hts _ kw_86) (fun _ h9 => h9) hr_12 dMain_close_31 ?_
      replace hf := g_bd hf
      obtain ⟨a_13, ea_13, hf⟩ := hf
      subst ea_13
      refine W.eq (g2 := F0 m 34 _ [.ref a_13, va_rf r_11]) rfl ?_
      replace hf := g_bd hf
      obtain ⟨a_14, ea_14, hf⟩ := hf
      subst ea_14
      refine W.eq (g2 := F0 m 34 _ [.ref a_13, .ref a_14]) rfl ?_
      replace hf := g_bd hf
      obtain ⟨_, hi_15, hf⟩ := hf
      replace hf := g_bd hf
      obtain ⟨z_16, hz_16, hf⟩ := hf
      refine g_gov (g_rV (As := [.ref a_13]) (rest := []) ⟨hx, hb, hml, hown, hts⟩ (mLog_end l D A n _ _ a_14 a_13 hz_16) (cwV 1 hts (gi_V kw_443 kw_444 kw_445 kw_10 kw_446) rfl rfl rfl ⟨rfl, hdLog_end⟩ ⟨Nat.le_of_ble_eq_true rfl, Nat.le_of_ble_eq_true rfl⟩) hK hW hS hA (ci := 3) (T := T_Log) (N := 5) rfl hi_15 rfl hl.1 rfl (Nat.le_of_ble_eq_true rfl) dMain_close_34 ⟨Nat.le_of_ble_eq_true rfl, Nat.le_of_ble_eq_true rfl⟩) hS (fun H locs hW hS => ?_)
      refine lv_aload_n hx hb dMain_close_37 rfl (lv_at hl 0 rfl) ?_
      replace hf := g_bd hf
      obtain ⟨r_17, hr_17, hf⟩ := hf
      refine g_getRN hx hb hts in_Step hown hK hW (ci := 4) (C := "SecretRows$Step") (T := T_Step) (N := 2) rfl (k := 1) (by decide) (host := "SecretRows") kw_318 (fun _ h9 => h9) hr_17 dMain_close_38 ?_
      replace hf := g_bd hf
      obtain ⟨a_18, ea_18, hf⟩ := hf
      subst ea_18
      refine W.eq (g2 := F0 m 41 _ [.ref a_18]) rfl ?_
      replace hf := g_bd hf
      obtain ⟨r_19, hr_19, hf⟩ := hf
      refine g_getRN hx hb hts in_Log hown hK hW (ci := 3) (C := "SecretRows$Log") (T := T_Log) (N := 5) rfl (k := 1) (by decide) (host := "SecretRows") kw_299 (fun _ h9 => h9) hr_19 dMain_close_41 ?_
      replace hf := g_bd hf
      obtain ⟨a_20, ea_20, hf⟩ := hf
      subst ea_20
      refine W.eq (g2 := F0 m 44 _ [.ref a_20]) rfl ?_
      replace hf := g_bd hf
      obtain ⟨_, hi_21, hf⟩ := hf
      replace hf := g_bps hf
      obtain ⟨v_23, z_22, hz_22, hf⟩ := hf
      refine g_goi (g_rV (As := []) (rest := []) ⟨hx, hb, hml, hown, hts⟩ (mText_length l D A n _ _ a_20 _ hz_22) (cwV 0 hts (gi_V kw_183 kw_184 kw_185 kw_3 kw_186) rfl rfl rfl ⟨rfl, hdText_length⟩ ⟨Nat.le_of_ble_eq_true rfl, Nat.le_of_ble_eq_true rfl⟩) hK hW hS hA (ci := 0) (T := T_Text) (N := 2) rfl hi_21 rfl hl.1 rfl (Nat.le_of_ble_eq_true rfl) dMain_close_44 ⟨Nat.le_of_ble_eq_true rfl, Nat.le_of_ble_eq_true rfl⟩) hS (fun H locs hW hS => ?_)
      cases hf
      exact g_reti hx hb hr hlocks hW hS (Nat.le_of_ble_eq_true rfl) (Nat.le_of_ble_eq_true rfl) dMain_close_47
    · replace hf := g_if c_8 hf
      refine lv_iconst (v := (-1)) hx hb dMain_close_20 (by decide) ?_
      cases hf
      exact g_reti hx hb hr hlocks hW hS (Nat.le_of_ble_eq_true rfl) (Nat.le_of_ble_eq_true rfl) dMain_close_21
