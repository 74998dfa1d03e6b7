theorem dRef_told_0 : decode cRef_told 0 = .ok (.aload_n 0, 1) := by decide +kernel
theorem dRef_told_1 : decode cRef_told 1 = .ok (.iconst 0, 1) := by decide +kernel
theorem dRef_told_2 : decode cRef_told 2 = .ok (.putfield 90, 3) := by decide +kernel
theorem dRef_told_5 : decode cRef_told 5 = .ok (.aload_n 0, 1) := by decide +kernel
theorem dRef_told_6 : decode cRef_told 6 = .ok (.iload_n 1, 1) := by decide +kernel
theorem dRef_told_7 : decode cRef_told 7 = .ok (.invokevirtual 118, 3) := by decide +kernel
theorem dRef_told_10 : decode cRef_told 10 = .ok (.ifCond .eq 17, 3) := by decide +kernel
theorem dRef_told_13 : decode cRef_told 13 = .ok (.iload_n 2, 1) := by decide +kernel
theorem dRef_told_14 : decode cRef_told 14 = .ok (.ifCond .lt 13, 3) := by decide +kernel
theorem dRef_told_17 : decode cRef_told 17 = .ok (.iload_n 2, 1) := by decide +kernel
theorem dRef_told_18 : decode cRef_told 18 = .ok (.aload_n 0, 1) := by decide +kernel
theorem dRef_told_19 : decode cRef_told 19 = .ok (.getfield 59, 3) := by decide +kernel
theorem dRef_told_22 : decode cRef_told 22 = .ok (.iload_n 1, 1) := by decide +kernel
theorem dRef_told_23 : decode cRef_told 23 = .ok (.iaload, 1) := by decide +kernel
theorem dRef_told_24 : decode cRef_told 24 = .ok (.if_icmp .lt 7, 3) := by decide +kernel
theorem dRef_told_27 : decode cRef_told 27 = .ok (.iconst (-1), 1) := by decide +kernel
theorem dRef_told_28 : decode cRef_told 28 = .ok (.goto 15, 3) := by decide +kernel
theorem dRef_told_31 : decode cRef_told 31 = .ok (.aload_n 0, 1) := by decide +kernel
theorem dRef_told_32 : decode cRef_told 32 = .ok (.getfield 56, 3) := by decide +kernel
theorem dRef_told_35 : decode cRef_told 35 = .ok (.sipush 300, 3) := by decide +kernel
theorem dRef_told_38 : decode cRef_told 38 = .ok (.iload_n 1, 1) := by decide +kernel
theorem dRef_told_39 : decode cRef_told 39 = .ok (.imul, 1) := by decide +kernel
theorem dRef_told_40 : decode cRef_told 40 = .ok (.iload_n 2, 1) := by decide +kernel
theorem dRef_told_41 : decode cRef_told 41 = .ok (.iadd, 1) := by decide +kernel
theorem dRef_told_42 : decode cRef_told 42 = .ok (.iaload, 1) := by decide +kernel
theorem dRef_told_43 : decode cRef_told 43 = .ok (.ireturn, 1) := by decide +kernel
theorem dRef_about_0 : decode cRef_about 0 = .ok (.aload_n 0, 1) := by decide +kernel
theorem dRef_about_1 : decode cRef_about 1 = .ok (.iconst 0, 1) := by decide +kernel
theorem dRef_about_2 : decode cRef_about 2 = .ok (.putfield 90, 3) := by decide +kernel
theorem dRef_about_5 : decode cRef_about 5 = .ok (.aload_n 0, 1) := by decide +kernel
theorem dRef_about_6 : decode cRef_about 6 = .ok (.iload_n 1, 1) := by decide +kernel
theorem dRef_about_7 : decode cRef_about 7 = .ok (.invokevirtual 118, 3) := by decide +kernel
theorem dRef_about_10 : decode cRef_about 10 = .ok (.ifCond .ne 5, 3) := by decide +kernel
theorem dRef_about_13 : decode cRef_about 13 = .ok (.iconst (-1), 1) := by decide +kernel
theorem dRef_about_14 : decode cRef_about 14 = .ok (.ireturn, 1) := by decide +kernel
theorem dRef_about_15 : decode cRef_about 15 = .ok (.iload_n 2, 1) := by decide +kernel
theorem dRef_about_16 : decode cRef_about 16 = .ok (.ifCond .ne 12, 3) := by decide +kernel
theorem dRef_about_19 : decode cRef_about 19 = .ok (.aload_n 0, 1) := by decide +kernel
theorem dRef_about_20 : decode cRef_about 20 = .ok (.getfield 59, 3) := by decide +kernel
theorem dRef_about_23 : decode cRef_about 23 = .ok (.iload_n 1, 1) := by decide +kernel
theorem dRef_about_24 : decode cRef_about 24 = .ok (.iaload, 1) := by decide +kernel
theorem dRef_about_25 : decode cRef_about 25 = .ok (.goto 39, 3) := by decide +kernel
theorem dRef_about_28 : decode cRef_about 28 = .ok (.iload_n 2, 1) := by decide +kernel
theorem dRef_about_29 : decode cRef_about 29 = .ok (.iconst 1, 1) := by decide +kernel
theorem dRef_about_30 : decode cRef_about 30 = .ok (.if_icmp .ne 19, 3) := by decide +kernel
theorem dRef_about_33 : decode cRef_about 33 = .ok (.aload_n 0, 1) := by decide +kernel
theorem dRef_about_34 : decode cRef_about 34 = .ok (.getfield 50, 3) := by decide +kernel
theorem dRef_about_37 : decode cRef_about 37 = .ok (.iload_n 1, 1) := by decide +kernel
theorem dRef_about_38 : decode cRef_about 38 = .ok (.iaload, 1) := by decide +kernel
theorem dRef_about_39 : decode cRef_about 39 = .ok (.aload_n 0, 1) := by decide +kernel
theorem dRef_about_40 : decode cRef_about 40 = .ok (.getfield 53, 3) := by decide +kernel
theorem dRef_about_43 : decode cRef_about 43 = .ok (.iload_n 1, 1) := by decide +kernel
theorem dRef_about_44 : decode cRef_about 44 = .ok (.iaload, 1) := by decide +kernel
theorem dRef_about_45 : decode cRef_about 45 = .ok (.isub, 1) := by decide +kernel
theorem dRef_about_46 : decode cRef_about 46 = .ok (.goto 18, 3) := by decide +kernel
theorem dRef_about_49 : decode cRef_about 49 = .ok (.iload_n 2, 1) := by decide +kernel
theorem dRef_about_50 : decode cRef_about 50 = .ok (.iconst 2, 1) := by decide +kernel
theorem dRef_about_51 : decode cRef_about 51 = .ok (.if_icmp .ne 12, 3) := by decide +kernel
theorem dRef_about_54 : decode cRef_about 54 = .ok (.aload_n 0, 1) := by decide +kernel
theorem dRef_about_55 : decode cRef_about 55 = .ok (.getfield 62, 3) := by decide +kernel
theorem dRef_about_58 : decode cRef_about 58 = .ok (.iload_n 1, 1) := by decide +kernel
theorem dRef_about_59 : decode cRef_about 59 = .ok (.iaload, 1) := by decide +kernel
theorem dRef_about_60 : decode cRef_about 60 = .ok (.goto 4, 3) := by decide +kernel
theorem dRef_about_63 : decode cRef_about 63 = .ok (.iconst (-1), 1) := by decide +kernel
theorem dRef_about_64 : decode cRef_about 64 = .ok (.ireturn, 1) := by decide +kernel
theorem dRef_token_0 : decode cRef_token 0 = .ok (.aload_n 0, 1) := by decide +kernel
theorem dRef_token_1 : decode cRef_token 1 = .ok (.iconst 0, 1) := by decide +kernel
theorem dRef_token_2 : decode cRef_token 2 = .ok (.putfield 90, 3) := by decide +kernel
theorem dRef_token_5 : decode cRef_token 5 = .ok (.aload_n 0, 1) := by decide +kernel
theorem dRef_token_6 : decode cRef_token 6 = .ok (.iload_n 1, 1) := by decide +kernel
theorem dRef_token_7 : decode cRef_token 7 = .ok (.iload_n 2, 1) := by decide +kernel
theorem dRef_token_8 : decode cRef_token 8 = .ok (.invokevirtual 121, 3) := by decide +kernel
theorem dRef_token_11 : decode cRef_token 11 = .ok (.iconst (-1), 1) := by decide +kernel
theorem dRef_token_12 : decode cRef_token 12 = .ok (.if_icmp .eq 23, 3) := by decide +kernel
theorem dRef_token_15 : decode cRef_token 15 = .ok (.aload_n 0, 1) := by decide +kernel
theorem dRef_token_16 : decode cRef_token 16 = .ok (.getfield 154, 3) := by decide +kernel
theorem dRef_token_19 : decode cRef_token 19 = .ok (.bipush 20, 2) := by decide +kernel
theorem dRef_token_21 : decode cRef_token 21 = .ok (.if_icmp .eq 14, 3) := by decide +kernel
theorem dRef_token_24 : decode cRef_token 24 = .ok (.iload_n 3, 1) := by decide +kernel
theorem dRef_token_25 : decode cRef_token 25 = .ok (.iconst 1, 1) := by decide +kernel
theorem dRef_token_26 : decode cRef_token 26 = .ok (.if_icmp .lt 9, 3) := by decide +kernel
theorem dRef_token_29 : decode cRef_token 29 = .ok (.iload_n 3, 1) := by decide +kernel
theorem dRef_token_30 : decode cRef_token 30 = .ok (.ldc 106, 2) := by decide +kernel
theorem dRef_token_32 : decode cRef_token 32 = .ok (.if_icmp .le 5, 3) := by decide +kernel
theorem dRef_token_35 : decode cRef_token 35 = .ok (.iconst (-1), 1) := by decide +kernel
theorem dRef_token_36 : decode cRef_token 36 = .ok (.ireturn, 1) := by decide +kernel
theorem dRef_token_37 : decode cRef_token 37 = .ok (.aload_n 0, 1) := by decide +kernel
theorem dRef_token_38 : decode cRef_token 38 = .ok (.getfield 77, 3) := by decide +kernel
theorem dRef_token_41 : decode cRef_token 41 = .ok (.aload_n 0, 1) := by decide +kernel
theorem dRef_token_42 : decode cRef_token 42 = .ok (.getfield 154, 3) := by decide +kernel
theorem dRef_token_45 : decode cRef_token 45 = .ok (.iload_n 2, 1) := by decide +kernel
theorem dRef_token_46 : decode cRef_token 46 = .ok (.iastore, 1) := by decide +kernel
theorem dRef_token_47 : decode cRef_token 47 = .ok (.aload_n 0, 1) := by decide +kernel
theorem dRef_token_48 : decode cRef_token 48 = .ok (.getfield 80, 3) := by decide +kernel
theorem dRef_token_51 : decode cRef_token 51 = .ok (.aload_n 0, 1) := by decide +kernel
theorem dRef_token_52 : decode cRef_token 52 = .ok (.getfield 154, 3) := by decide +kernel
theorem dRef_token_55 : decode cRef_token 55 = .ok (.aload_n 0, 1) := by decide +kernel
theorem dRef_token_56 : decode cRef_token 56 = .ok (.iload_n 1, 1) := by decide +kernel
theorem dRef_token_57 : decode cRef_token 57 = .ok (.iload_n 2, 1) := by decide +kernel
theorem dRef_token_58 : decode cRef_token 58 = .ok (.invokevirtual 121, 3) := by decide +kernel
theorem dRef_token_61 : decode cRef_token 61 = .ok (.iastore, 1) := by decide +kernel
theorem dRef_token_62 : decode cRef_token 62 = .ok (.aload_n 0, 1) := by decide +kernel
theorem dRef_token_63 : decode cRef_token 63 = .ok (.getfield 83, 3) := by decide +kernel
theorem dRef_token_66 : decode cRef_token 66 = .ok (.aload_n 0, 1) := by decide +kernel
theorem dRef_token_67 : decode cRef_token 67 = .ok (.getfield 154, 3) := by decide +kernel
theorem dRef_token_70 : decode cRef_token 70 = .ok (.aload_n 0, 1) := by decide +kernel
theorem dRef_token_71 : decode cRef_token 71 = .ok (.getfield 114, 3) := by decide +kernel
theorem dRef_token_74 : decode cRef_token 74 = .ok (.iload_n 3, 1) := by decide +kernel
theorem dRef_token_75 : decode cRef_token 75 = .ok (.iadd, 1) := by decide +kernel
theorem dRef_token_76 : decode cRef_token 76 = .ok (.iastore, 1) := by decide +kernel
theorem dRef_token_77 : decode cRef_token 77 = .ok (.aload_n 0, 1) := by decide +kernel
theorem dRef_token_78 : decode cRef_token 78 = .ok (.dup, 1) := by decide +kernel
theorem dRef_token_79 : decode cRef_token 79 = .ok (.getfield 154, 3) := by decide +kernel
theorem dRef_token_82 : decode cRef_token 82 = .ok (.iconst 1, 1) := by decide +kernel
theorem dRef_token_83 : decode cRef_token 83 = .ok (.iadd, 1) := by decide +kernel
theorem dRef_token_84 : decode cRef_token 84 = .ok (.putfield 154, 3) := by decide +kernel
theorem dRef_token_87 : decode cRef_token 87 = .ok (.aload_n 0, 1) := by decide +kernel
theorem dRef_token_88 : decode cRef_token 88 = .ok (.getfield 154, 3) := by decide +kernel
theorem dRef_token_91 : decode cRef_token 91 = .ok (.iconst 1, 1) := by decide +kernel
theorem dRef_token_92 : decode cRef_token 92 = .ok (.isub, 1) := by decide +kernel
theorem dRef_token_93 : decode cRef_token 93 = .ok (.ireturn, 1) := by decide +kernel
theorem dRef_good_0 : decode cRef_good 0 = .ok (.aload_n 0, 1) := by decide +kernel
theorem dRef_good_1 : decode cRef_good 1 = .ok (.iconst 0, 1) := by decide +kernel
theorem dRef_good_2 : decode cRef_good 2 = .ok (.putfield 90, 3) := by decide +kernel
theorem dRef_good_5 : decode cRef_good 5 = .ok (.iload_n 1, 1) := by decide +kernel
theorem dRef_good_6 : decode cRef_good 6 = .ok (.ifCond .lt 62, 3) := by decide +kernel
theorem dRef_good_9 : decode cRef_good 9 = .ok (.iload_n 1, 1) := by decide +kernel
theorem dRef_good_10 : decode cRef_good 10 = .ok (.aload_n 0, 1) := by decide +kernel
theorem dRef_good_11 : decode cRef_good 11 = .ok (.getfield 154, 3) := by decide +kernel
theorem dRef_good_14 : decode cRef_good 14 = .ok (.if_icmp .ge 54, 3) := by decide +kernel
theorem dRef_good_17 : decode cRef_good 17 = .ok (.aload_n 0, 1) := by decide +kernel
theorem dRef_good_18 : decode cRef_good 18 = .ok (.getfield 114, 3) := by decide +kernel
theorem dRef_good_21 : decode cRef_good 21 = .ok (.aload_n 0, 1) := by decide +kernel
theorem dRef_good_22 : decode cRef_good 22 = .ok (.getfield 83, 3) := by decide +kernel
theorem dRef_good_25 : decode cRef_good 25 = .ok (.iload_n 1, 1) := by decide +kernel
theorem dRef_good_26 : decode cRef_good 26 = .ok (.iaload, 1) := by decide +kernel
theorem dRef_good_27 : decode cRef_good 27 = .ok (.if_icmp .ge 41, 3) := by decide +kernel
theorem dRef_good_30 : decode cRef_good 30 = .ok (.aload_n 0, 1) := by decide +kernel
theorem dRef_good_31 : decode cRef_good 31 = .ok (.getfield 37, 3) := by decide +kernel
theorem dRef_good_34 : decode cRef_good 34 = .ok (.aload_n 0, 1) := by decide +kernel
theorem dRef_good_35 : decode cRef_good 35 = .ok (.getfield 77, 3) := by decide +kernel
theorem dRef_good_38 : decode cRef_good 38 = .ok (.iload_n 1, 1) := by decide +kernel
theorem dRef_good_39 : decode cRef_good 39 = .ok (.iaload, 1) := by decide +kernel
theorem dRef_good_40 : decode cRef_good 40 = .ok (.baload, 1) := by decide +kernel
theorem dRef_good_41 : decode cRef_good 41 = .ok (.ifCond .ne 27, 3) := by decide +kernel
theorem dRef_good_44 : decode cRef_good 44 = .ok (.aload_n 0, 1) := by decide +kernel
theorem dRef_good_45 : decode cRef_good 45 = .ok (.getfield 80, 3) := by decide +kernel
theorem dRef_good_48 : decode cRef_good 48 = .ok (.iload_n 1, 1) := by decide +kernel
theorem dRef_good_49 : decode cRef_good 49 = .ok (.iaload, 1) := by decide +kernel
theorem dRef_good_50 : decode cRef_good 50 = .ok (.aload_n 0, 1) := by decide +kernel
theorem dRef_good_51 : decode cRef_good 51 = .ok (.getfield 28, 3) := by decide +kernel
theorem dRef_good_54 : decode cRef_good 54 = .ok (.aload_n 0, 1) := by decide +kernel
theorem dRef_good_55 : decode cRef_good 55 = .ok (.getfield 77, 3) := by decide +kernel
theorem dRef_good_58 : decode cRef_good 58 = .ok (.iload_n 1, 1) := by decide +kernel
theorem dRef_good_59 : decode cRef_good 59 = .ok (.iaload, 1) := by decide +kernel
theorem dRef_good_60 : decode cRef_good 60 = .ok (.iaload, 1) := by decide +kernel
theorem dRef_good_61 : decode cRef_good 61 = .ok (.if_icmp .ne 7, 3) := by decide +kernel
theorem dRef_good_64 : decode cRef_good 64 = .ok (.iconst 1, 1) := by decide +kernel
theorem dRef_good_65 : decode cRef_good 65 = .ok (.goto 4, 3) := by decide +kernel
theorem dRef_good_68 : decode cRef_good 68 = .ok (.iconst 0, 1) := by decide +kernel
theorem dRef_good_69 : decode cRef_good 69 = .ok (.ireturn, 1) := by decide +kernel
theorem dRef_scan_0 : decode cRef_scan 0 = .ok (.aload_n 0, 1) := by decide +kernel
theorem dRef_scan_1 : decode cRef_scan 1 = .ok (.iconst 0, 1) := by decide +kernel
theorem dRef_scan_2 : decode cRef_scan 2 = .ok (.putfield 90, 3) := by decide +kernel
theorem dRef_scan_5 : decode cRef_scan 5 = .ok (.aload_n 0, 1) := by decide +kernel
theorem dRef_scan_6 : decode cRef_scan 6 = .ok (.getfield 99, 3) := by decide +kernel
theorem dRef_scan_9 : decode cRef_scan 9 = .ok (.istore_n 1, 1) := by decide +kernel
theorem dRef_scan_10 : decode cRef_scan 10 = .ok (.aload_n 0, 1) := by decide +kernel
theorem dRef_scan_11 : decode cRef_scan 11 = .ok (.iconst 0, 1) := by decide +kernel
theorem dRef_scan_12 : decode cRef_scan 12 = .ok (.putfield 99, 3) := by decide +kernel
theorem dRef_scan_15 : decode cRef_scan 15 = .ok (.iconst 0, 1) := by decide +kernel
theorem dRef_scan_16 : decode cRef_scan 16 = .ok (.istore_n 2, 1) := by decide +kernel
theorem dRef_scan_17 : decode cRef_scan 17 = .ok (.iload_n 2, 1) := by decide +kernel
theorem dRef_scan_18 : decode cRef_scan 18 = .ok (.iload_n 1, 1) := by decide +kernel
theorem dRef_scan_19 : decode cRef_scan 19 = .ok (.if_icmp .ge 163, 3) := by decide +kernel
theorem dRef_scan_22 : decode cRef_scan 22 = .ok (.iconst 0, 1) := by decide +kernel
theorem dRef_scan_23 : decode cRef_scan 23 = .ok (.istore_n 3, 1) := by decide +kernel
theorem dRef_scan_24 : decode cRef_scan 24 = .ok (.iconst 0, 1) := by decide +kernel
theorem dRef_scan_25 : decode cRef_scan 25 = .ok (.istore 4, 2) := by decide +kernel
theorem dRef_scan_27 : decode cRef_scan 27 = .ok (.iload 4, 2) := by decide +kernel
theorem dRef_scan_29 : decode cRef_scan 29 = .ok (.aload_n 0, 1) := by decide +kernel
theorem dRef_scan_30 : decode cRef_scan 30 = .ok (.getfield 93, 3) := by decide +kernel
theorem dRef_scan_33 : decode cRef_scan 33 = .ok (.if_icmp .ge 137, 3) := by decide +kernel
theorem dRef_scan_36 : decode cRef_scan 36 = .ok (.iconst 0, 1) := by decide +kernel
theorem dRef_scan_37 : decode cRef_scan 37 = .ok (.istore 5, 2) := by decide +kernel
theorem dRef_scan_39 : decode cRef_scan 39 = .ok (.iload 5, 2) := by decide +kernel
theorem dRef_scan_41 : decode cRef_scan 41 = .ok (.aload_n 0, 1) := by decide +kernel
theorem dRef_scan_42 : decode cRef_scan 42 = .ok (.getfield 111, 3) := by decide +kernel
theorem dRef_scan_45 : decode cRef_scan 45 = .ok (.if_icmp .ge 119, 3) := by decide +kernel
theorem dRef_scan_48 : decode cRef_scan 48 = .ok (.iconst 0, 1) := by decide +kernel
theorem dRef_scan_49 : decode cRef_scan 49 = .ok (.istore 6, 2) := by decide +kernel
theorem dRef_scan_51 : decode cRef_scan 51 = .ok (.iload 6, 2) := by decide +kernel
theorem dRef_scan_53 : decode cRef_scan 53 = .ok (.iconst 3, 1) := by decide +kernel
theorem dRef_scan_54 : decode cRef_scan 54 = .ok (.if_icmp .ge 104, 3) := by decide +kernel
theorem dRef_scan_57 : decode cRef_scan 57 = .ok (.aload_n 0, 1) := by decide +kernel
theorem dRef_scan_58 : decode cRef_scan 58 = .ok (.getfield 7, 3) := by decide +kernel
theorem dRef_scan_61 : decode cRef_scan 61 = .ok (.iload 5, 2) := by decide +kernel
theorem dRef_scan_63 : decode cRef_scan 63 = .ok (.iaload, 1) := by decide +kernel
theorem dRef_scan_64 : decode cRef_scan 64 = .ok (.iload 4, 2) := by decide +kernel
theorem dRef_scan_66 : decode cRef_scan 66 = .ok (.if_icmp .ne 92, 3) := by decide +kernel
theorem dRef_scan_69 : decode cRef_scan 69 = .ok (.aload_n 0, 1) := by decide +kernel
theorem dRef_scan_70 : decode cRef_scan 70 = .ok (.iload 5, 2) := by decide +kernel
theorem dRef_scan_72 : decode cRef_scan 72 = .ok (.invokevirtual 139, 3) := by decide +kernel
theorem dRef_scan_75 : decode cRef_scan 75 = .ok (.ifCond .eq 83, 3) := by decide +kernel
theorem dRef_scan_78 : decode cRef_scan 78 = .ok (.aload_n 0, 1) := by decide +kernel
theorem dRef_scan_79 : decode cRef_scan 79 = .ok (.iload 5, 2) := by decide +kernel
theorem dRef_scan_81 : decode cRef_scan 81 = .ok (.iload 6, 2) := by decide +kernel
theorem dRef_scan_83 : decode cRef_scan 83 = .ok (.invokevirtual 132, 3) := by decide +kernel
theorem dRef_scan_86 : decode cRef_scan 86 = .ok (.istore 7, 2) := by decide +kernel
theorem dRef_scan_88 : decode cRef_scan 88 = .ok (.iload 7, 2) := by decide +kernel
theorem dRef_scan_90 : decode cRef_scan 90 = .ok (.iload_n 3, 1) := by decide +kernel
theorem dRef_scan_91 : decode cRef_scan 91 = .ok (.if_icmp .le 61, 3) := by decide +kernel
theorem dRef_scan_94 : decode cRef_scan 94 = .ok (.aload_n 0, 1) := by decide +kernel
theorem dRef_scan_95 : decode cRef_scan 95 = .ok (.aload_n 0, 1) := by decide +kernel
theorem dRef_scan_96 : decode cRef_scan 96 = .ok (.getfield 41, 3) := by decide +kernel
theorem dRef_scan_99 : decode cRef_scan 99 = .ok (.iload_n 2, 1) := by decide +kernel
theorem dRef_scan_100 : decode cRef_scan 100 = .ok (.iload_n 1, 1) := by decide +kernel
theorem dRef_scan_101 : decode cRef_scan 101 = .ok (.iload 5, 2) := by decide +kernel
theorem dRef_scan_103 : decode cRef_scan 103 = .ok (.iload 6, 2) := by decide +kernel
theorem dRef_scan_105 : decode cRef_scan 105 = .ok (.invokevirtual 142, 3) := by decide +kernel
theorem dRef_scan_108 : decode cRef_scan 108 = .ok (.iload 7, 2) := by decide +kernel
theorem dRef_scan_110 : decode cRef_scan 110 = .ok (.if_icmp .ge 6, 3) := by decide +kernel
theorem dRef_scan_113 : decode cRef_scan 113 = .ok (.goto 39, 3) := by decide +kernel
theorem dRef_scan_116 : decode cRef_scan 116 = .ok (.iload 7, 2) := by decide +kernel
theorem dRef_scan_118 : decode cRef_scan 118 = .ok (.istore_n 3, 1) := by decide +kernel
theorem dRef_scan_119 : decode cRef_scan 119 = .ok (.aload_n 0, 1) := by decide +kernel
theorem dRef_scan_120 : decode cRef_scan 120 = .ok (.iload 4, 2) := by decide +kernel
theorem dRef_scan_122 : decode cRef_scan 122 = .ok (.putfield 86, 3) := by decide +kernel
theorem dRef_scan_125 : decode cRef_scan 125 = .ok (.aload_n 0, 1) := by decide +kernel
theorem dRef_scan_126 : decode cRef_scan 126 = .ok (.iload 6, 2) := by decide +kernel
theorem dRef_scan_128 : decode cRef_scan 128 = .ok (.putfield 157, 3) := by decide +kernel
theorem dRef_scan_131 : decode cRef_scan 131 = .ok (.aload_n 0, 1) := by decide +kernel
theorem dRef_scan_132 : decode cRef_scan 132 = .ok (.aload_n 0, 1) := by decide +kernel
theorem dRef_scan_133 : decode cRef_scan 133 = .ok (.getfield 28, 3) := by decide +kernel
theorem dRef_scan_136 : decode cRef_scan 136 = .ok (.iload 4, 2) := by decide +kernel
theorem dRef_scan_138 : decode cRef_scan 138 = .ok (.iaload, 1) := by decide +kernel
theorem dRef_scan_139 : decode cRef_scan 139 = .ok (.iload 5, 2) := by decide +kernel
theorem dRef_scan_141 : decode cRef_scan 141 = .ok (.if_icmp .ne 7, 3) := by decide +kernel
theorem dRef_scan_144 : decode cRef_scan 144 = .ok (.iconst 0, 1) := by decide +kernel
theorem dRef_scan_145 : decode cRef_scan 145 = .ok (.goto 4, 3) := by decide +kernel
theorem dRef_scan_148 : decode cRef_scan 148 = .ok (.iconst 1, 1) := by decide +kernel
theorem dRef_scan_149 : decode cRef_scan 149 = .ok (.putfield 160, 3) := by decide +kernel
theorem dRef_scan_152 : decode cRef_scan 152 = .ok (.iinc 6 1, 3) := by decide +kernel
theorem dRef_scan_155 : decode cRef_scan 155 = .ok (.goto (-104), 3) := by decide +kernel
theorem dRef_scan_158 : decode cRef_scan 158 = .ok (.iinc 5 1, 3) := by decide +kernel
theorem dRef_scan_161 : decode cRef_scan 161 = .ok (.goto (-122), 3) := by decide +kernel
theorem dRef_scan_164 : decode cRef_scan 164 = .ok (.iinc 4 1, 3) := by decide +kernel
theorem dRef_scan_167 : decode cRef_scan 167 = .ok (.goto (-140), 3) := by decide +kernel
theorem dRef_scan_170 : decode cRef_scan 170 = .ok (.iload_n 3, 1) := by decide +kernel
theorem dRef_scan_171 : decode cRef_scan 171 = .ok (.ifCond .le 5, 3) := by decide +kernel
theorem dRef_scan_174 : decode cRef_scan 174 = .ok (.iload_n 2, 1) := by decide +kernel
theorem dRef_scan_175 : decode cRef_scan 175 = .ok (.ireturn, 1) := by decide +kernel
theorem dRef_scan_176 : decode cRef_scan 176 = .ok (.iinc 2 1, 3) := by decide +kernel
theorem dRef_scan_179 : decode cRef_scan 179 = .ok (.goto (-162), 3) := by decide +kernel
theorem dRef_scan_182 : decode cRef_scan 182 = .ok (.iconst (-1), 1) := by decide +kernel
theorem dRef_scan_183 : decode cRef_scan 183 = .ok (.ireturn, 1) := by decide +kernel
def fRef_told (n : Nat) (a0 : Nat) (i1 : Int32) (i2 : Int32) (z : gS) : Option (Int32 × gS) :=
    (g_pF z a0 9 0 (.int 0)).bind fun z_1 =>
    (g_is z_1 a0 9).bind fun _ =>
    g_bp (fRef_isStep n a0 i1 z_1) fun v_4 z_3 =>
    if v_4 = 0 then (
    some ((-1), z_3))
    else (
    if i2 < 0 then (
    some ((-1), z_3))
    else (
    (g_fR z_3 a0 9 24).bind fun r_7 =>
    r_7.bind fun a_8 =>
    (g_ldI z_3 .int a_8 i1).bind fun v_9 =>
    if i2 < v_9 then (
    (g_fR z_3 a0 9 23).bind fun r_11 =>
    r_11.bind fun a_12 =>
    (g_ldI z_3 .int a_12 ((300 * i1) + i2)).bind fun v_13 =>
    some (v_13, z_3))
    else (
    some ((-1), z_3))))
set_option maxHeartbeats 4000000 in
set_option maxRecDepth 100000 in
theorem mRef_told (l : Launch) (D : va_G) (A : Nat → Prop) (n : Nat) (z z' : gS) (a0 : Nat) (i1 : Int32) (i2 : Int32) (r : Int32) (hf : fRef_told n a0 i1 i2 z = some (r, z')) : Met l yRef_told wsRef_told ({ frames := 1, cells := 0, slots := 0, locals := 21 }) (g_P D vwCl gNN gOO A z [.ref a0, .int i1, .int i2]) (g_Qi D vwCl A r z') 0 0 A := by
  refine Met.ofW (cc := cRef_told) (maxL := 3) (ret := (some .int)) (by decide) rfl ?_
  intro p e s m args below meth c s₁ B hml hv
  obtain ⟨rfl, hW, hK, hA0⟩ := hv
  have C : g_C p s m meth c _ cRef_told 3 (some .int) "SecretRowsModel" gW D vwCl gNN gOO A := ⟨B.exec, B.bytes, B.returns, hml, findClass_of_methodNamed B.named, fun w hw => atoms_spec (ws := wsRef_told) B.pre w (List.mem_cons_of_mem _ hw), B.notSynchronized, hK, fun q hq => hA0 q (by rw [← hW.1]; exact hq)⟩
  have hS : va_S A s.heap s.heap [] := va_S.rf
  have hl := lv_entry ([.ref a0, .int i1, .int i2]) (n := 3) (Nat.le_of_ble_eq_true rfl)
  rw [lg_entry_eq]
  generalize (lg_sl ([.ref a0, .int i1, .int i2]) ++ List.replicate (3 - (lg_sl ([.ref a0, .int i1, .int i2])).length) Slot.unset).toArray = ls at hl ⊢
  have hl : lv_has ls 3 [(0, .ref a0), (1, .int i1), (2, .int i2)] := hl
  obtain ⟨hx, hb, hr, hml, hown, hts, hlocks, hK, hA⟩ := id C
  unfold fRef_told at hf
  refine lv_aload_n hx hb dRef_told_0 rfl (lv_at hl 0 rfl) ?_
  refine lv_iconst (v := 0) hx hb dRef_told_1 (by decide) ?_
  replace hf := g_bd hf
  obtain ⟨z_1, hz_1, hf⟩ := hf
  refine g_put hx hb hts in_Ref ty_Ref tyok_Ref nm_Ref hown hK hW hS (ci := 9) (C := "SecretRowsModel") (T := T_Ref) (N := 36) rfl (k := 0) (by decide) (hts _ kw_520) (fun _ h9 => h9) rfl (ty := .int) (by decide +kernel) rfl rfl hz_1 dRef_told_2 (fun H locs hW hS => ?_)
  refine lv_aload_n hx hb dRef_told_5 rfl (lv_at hl 0 rfl) ?_
  refine lv_iload_n hx hb dRef_told_6 rfl (lv_at hl 1 rfl) ?_
  replace hf := g_bd hf
  obtain ⟨_, hi_2, hf⟩ := hf
  replace hf := g_bps hf
  obtain ⟨v_4, z_3, hz_3, hf⟩ := hf
  refine g_goi (g_rV (As := [.int i1]) (rest := []) ⟨hx, hb, hml, hown, hts⟩ (mRef_isStep l D A n _ _ a0 i1 _ hz_3) (cwV 1 hts (gi_V kw_672 kw_674 ks_Ref_isStep kw_6 kw_675) rfl rfl rfl ⟨rfl, hdRef_isStep⟩ ⟨Nat.le_of_ble_eq_true rfl, Nat.le_of_ble_eq_true rfl⟩) hK hW hS hA (ci := 9) (T := T_Ref) (N := 36) rfl hi_2 rfl hl.1 rfl (Nat.le_of_ble_eq_true rfl) dRef_told_7 ⟨Nat.le_of_ble_eq_true rfl, Nat.le_of_ble_eq_true rfl⟩) hS (fun H locs hW hS => ?_)
  refine lv_if_eq (tgt := 27) hx hb dRef_told_10 (by decide) (fun c_5 => ?_) (fun c_5 => ?_)
  · replace hf := g_it c_5 hf
    refine lv_iconst (v := (-1)) hx hb dRef_told_27 (by decide) ?_
    refine lv_goto (tgt := 43) hx hb dRef_told_28 (by decide) ?_
    cases hf
    exact g_reti hx hb hr hlocks hW hS (Nat.le_of_ble_eq_true rfl) (Nat.le_of_ble_eq_true rfl) dRef_told_43
  · replace hf := g_if c_5 hf
    refine lv_iload_n hx hb dRef_told_13 rfl (lv_at hl 2 rfl) ?_
    refine lv_if_lt (tgt := 27) hx hb dRef_told_14 (by decide) (fun c_6 => ?_) (fun c_6 => ?_)
    · replace hf := g_it c_6 hf
      refine lv_iconst (v := (-1)) hx hb dRef_told_27 (by decide) ?_
      refine lv_goto (tgt := 43) hx hb dRef_told_28 (by decide) ?_
      cases hf
      exact g_reti hx hb hr hlocks hW hS (Nat.le_of_ble_eq_true rfl) (Nat.le_of_ble_eq_true rfl) dRef_told_43
    · replace hf := g_if c_6 hf
      refine lv_iload_n hx hb dRef_told_17 rfl (lv_at hl 2 rfl) ?_
      refine lv_aload_n hx hb dRef_told_18 rfl (lv_at hl 0 rfl) ?_
      replace hf := g_bd hf
      obtain ⟨r_7, hr_7, hf⟩ := hf
      refine g_getR hx hb hts in_Ref hown hK hW (ci := 9) (C := "SecretRowsModel") (T := T_Ref) (N := 36) rfl (k := 24) (by decide) (hts _ kw_544) (fun _ h9 => h9) hr_7 dRef_told_19 ?_
      refine lv_iload_n hx hb dRef_told_22 rfl (lv_at hl 1 rfl) ?_
      replace hf := g_bd hf
      obtain ⟨a_8, ea_8, hf⟩ := hf
      subst ea_8
      refine W.eq (g2 := F0 m 23 _ [.int i1, .ref a_8, .int i2]) rfl ?_
      replace hf := g_bd hf
      obtain ⟨v_9, hv_9, hf⟩ := hf
      refine g_ald_i hx hb hK hW hv_9 dRef_told_23 ?_
      refine lv_icmp_lt (tgt := 31) hx hb dRef_told_24 (by decide) (fun c_10 => ?_) (fun c_10 => ?_)
      · replace hf := g_it c_10 hf
        refine lv_aload_n hx hb dRef_told_31 rfl (lv_at hl 0 rfl) ?_
        replace hf := g_bd hf
        obtain ⟨r_11, hr_11, hf⟩ := hf
        refine g_getR hx hb hts in_Ref hown hK hW (ci := 9) (C := "SecretRowsModel") (T := T_Ref) (N := 36) rfl (k := 23) (by decide) (hts _ kw_543) (fun _ h9 => h9) hr_11 dRef_told_32 ?_
        refine lv_sipush (v := 300) hx hb dRef_told_35 (by decide) ?_
        refine lv_iload_n hx hb dRef_told_38 rfl (lv_at hl 1 rfl) ?_
        refine lv_imul hx hb dRef_told_39 ?_
        refine lv_iload_n hx hb dRef_told_40 rfl (lv_at hl 2 rfl) ?_
        refine lv_iadd hx hb dRef_told_41 ?_
        replace hf := g_bd hf
        obtain ⟨a_12, ea_12, hf⟩ := hf
        subst ea_12
        refine W.eq (g2 := F0 m 42 _ [.int ((300 * i1) + i2), .ref a_12]) rfl ?_
        replace hf := g_bd hf
        obtain ⟨v_13, hv_13, hf⟩ := hf
        refine g_ald_i hx hb hK hW hv_13 dRef_told_42 ?_
        cases hf
        exact g_reti hx hb hr hlocks hW hS (Nat.le_of_ble_eq_true rfl) (Nat.le_of_ble_eq_true rfl) dRef_told_43
      · replace hf := g_if c_10 hf
        refine lv_iconst (v := (-1)) hx hb dRef_told_27 (by decide) ?_
        refine lv_goto (tgt := 43) hx hb dRef_told_28 (by decide) ?_
        cases hf
        exact g_reti hx hb hr hlocks hW hS (Nat.le_of_ble_eq_true rfl) (Nat.le_of_ble_eq_true rfl) dRef_told_43

def fRef_about (n : Nat) (a0 : Nat) (i1 : Int32) (i2 : Int32) (z : gS) : Option (Int32 × gS) :=
    (g_pF z a0 9 0 (.int 0)).bind fun z_1 =>
    (g_is z_1 a0 9).bind fun _ =>
    g_bp (fRef_isStep n a0 i1 z_1) fun v_4 z_3 =>
    if v_4 = 0 then (
    some ((-1), z_3))
    else (
    if i2 = 0 then (
    (g_fR z_3 a0 9 24).bind fun r_18 =>
    r_18.bind fun a_19 =>
    (g_ldI z_3 .int a_19 i1).bind fun v_20 =>
    some (v_20, z_3))
    else (
    if i2 = 1 then (
    (g_fR z_3 a0 9 21).bind fun r_12 =>
    r_12.bind fun a_13 =>
    (g_ldI z_3 .int a_13 i1).bind fun v_14 =>
    (g_fR z_3 a0 9 22).bind fun r_15 =>
    r_15.bind fun a_16 =>
    (g_ldI z_3 .int a_16 i1).bind fun v_17 =>
    some ((v_14 - v_17), z_3))
    else (
    if i2 = 2 then (
    (g_fR z_3 a0 9 25).bind fun r_9 =>
    r_9.bind fun a_10 =>
    (g_ldI z_3 .int a_10 i1).bind fun v_11 =>
    some (v_11, z_3))
    else (
    some ((-1), z_3)))))
set_option maxHeartbeats 4000000 in
set_option maxRecDepth 100000 in
theorem mRef_about (l : Launch) (D : va_G) (A : Nat → Prop) (n : Nat) (z z' : gS) (a0 : Nat) (i1 : Int32) (i2 : Int32) (r : Int32) (hf : fRef_about n a0 i1 i2 z = some (r, z')) : Met l yRef_about wsRef_about ({ frames := 1, cells := 0, slots := 0, locals := 21 }) (g_P D vwCl gNN gOO A z [.ref a0, .int i1, .int i2]) (g_Qi D vwCl A r z') 0 0 A := by
  refine Met.ofW (cc := cRef_about) (maxL := 3) (ret := (some .int)) (by decide) rfl ?_
  intro p e s m args below meth c s₁ B hml hv
  obtain ⟨rfl, hW, hK, hA0⟩ := hv
  have C : g_C p s m meth c _ cRef_about 3 (some .int) "SecretRowsModel" gW D vwCl gNN gOO A := ⟨B.exec, B.bytes, B.returns, hml, findClass_of_methodNamed B.named, fun w hw => atoms_spec (ws := wsRef_about) B.pre w (List.mem_cons_of_mem _ hw), B.notSynchronized, hK, fun q hq => hA0 q (by rw [← hW.1]; exact hq)⟩
  have hS : va_S A s.heap s.heap [] := va_S.rf
  have hl := lv_entry ([.ref a0, .int i1, .int i2]) (n := 3) (Nat.le_of_ble_eq_true rfl)
  rw [lg_entry_eq]
  generalize (lg_sl ([.ref a0, .int i1, .int i2]) ++ List.replicate (3 - (lg_sl ([.ref a0, .int i1, .int i2])).length) Slot.unset).toArray = ls at hl ⊢
  have hl : lv_has ls 3 [(0, .ref a0), (1, .int i1), (2, .int i2)] := hl
  obtain ⟨hx, hb, hr, hml, hown, hts, hlocks, hK, hA⟩ := id C
  unfold fRef_about at hf
  refine lv_aload_n hx hb dRef_about_0 rfl (lv_at hl 0 rfl) ?_
  refine lv_iconst (v := 0) hx hb dRef_about_1 (by decide) ?_
  replace hf := g_bd hf
  obtain ⟨z_1, hz_1, hf⟩ := hf
  refine g_put hx hb hts in_Ref ty_Ref tyok_Ref nm_Ref hown hK hW hS (ci := 9) (C := "SecretRowsModel") (T := T_Ref) (N := 36) rfl (k := 0) (by decide) (hts _ kw_520) (fun _ h9 => h9) rfl (ty := .int) (by decide +kernel) rfl rfl hz_1 dRef_about_2 (fun H locs hW hS => ?_)
  refine lv_aload_n hx hb dRef_about_5 rfl (lv_at hl 0 rfl) ?_
  refine lv_iload_n hx hb dRef_about_6 rfl (lv_at hl 1 rfl) ?_
  replace hf := g_bd hf
  obtain ⟨_, hi_2, hf⟩ := hf
  replace hf := g_bps hf
  obtain ⟨v_4, z_3, hz_3, hf⟩ := hf
  refine g_goi (g_rV (As := [.int i1]) (rest := []) ⟨hx, hb, hml, hown, hts⟩ (mRef_isStep l D A n _ _ a0 i1 _ hz_3) (cwV 1 hts (gi_V kw_672 kw_674 ks_Ref_isStep kw_6 kw_675) rfl rfl rfl ⟨rfl, hdRef_isStep⟩ ⟨Nat.le_of_ble_eq_true rfl, Nat.le_of_ble_eq_true rfl⟩) hK hW hS hA (ci := 9) (T := T_Ref) (N := 36) rfl hi_2 rfl hl.1 rfl (Nat.le_of_ble_eq_true rfl) dRef_about_7 ⟨Nat.le_of_ble_eq_true rfl, Nat.le_of_ble_eq_true rfl⟩) hS (fun H locs hW hS => ?_)
  refine lv_if_ne (tgt := 15) hx hb dRef_about_10 (by decide) (fun c_5 => ?_) (fun c_5 => ?_)
  · replace hf := g_if c_5 hf
    refine lv_iload_n hx hb dRef_about_15 rfl (lv_at hl 2 rfl) ?_
    refine lv_if_ne (tgt := 28) hx hb dRef_about_16 (by decide) (fun c_6 => ?_) (fun c_6 => ?_)
    · replace hf := g_if c_6 hf
      refine lv_iload_n hx hb dRef_about_28 rfl (lv_at hl 2 rfl) ?_
      refine lv_iconst (v := 1) hx hb dRef_about_29 (by decide) ?_
      refine lv_icmp_ne (tgt := 49) hx hb dRef_about_30 (by decide) (fun c_7 => ?_) (fun c_7 => ?_)
      · replace hf := g_if c_7 hf
        refine lv_iload_n hx hb dRef_about_49 rfl (lv_at hl 2 rfl) ?_
        refine lv_iconst (v := 2) hx hb dRef_about_50 (by decide) ?_
        refine lv_icmp_ne (tgt := 63) hx hb dRef_about_51 (by decide) (fun c_8 => ?_) (fun c_8 => ?_)
        · replace hf := g_if c_8 hf
          refine lv_iconst (v := (-1)) hx hb dRef_about_63 (by decide) ?_
          cases hf
          exact g_reti hx hb hr hlocks hW hS (Nat.le_of_ble_eq_true rfl) (Nat.le_of_ble_eq_true rfl) dRef_about_64
        · replace hf := g_it c_8 hf
          refine lv_aload_n hx hb dRef_about_54 rfl (lv_at hl 0 rfl) ?_
          replace hf := g_bd hf
          obtain ⟨r_9, hr_9, hf⟩ := hf
          refine g_getR hx hb hts in_Ref hown hK hW (ci := 9) (C := "SecretRowsModel") (T := T_Ref) (N := 36) rfl (k := 25) (by decide) (hts _ kw_545) (fun _ h9 => h9) hr_9 dRef_about_55 ?_
          refine lv_iload_n hx hb dRef_about_58 rfl (lv_at hl 1 rfl) ?_
          replace hf := g_bd hf
          obtain ⟨a_10, ea_10, hf⟩ := hf
          subst ea_10
          refine W.eq (g2 := F0 m 59 _ [.int i1, .ref a_10]) rfl ?_
          replace hf := g_bd hf
          obtain ⟨v_11, hv_11, hf⟩ := hf
          refine g_ald_i hx hb hK hW hv_11 dRef_about_59 ?_
          refine lv_goto (tgt := 64) hx hb dRef_about_60 (by decide) ?_
          cases hf
          exact g_reti hx hb hr hlocks hW hS (Nat.le_of_ble_eq_true rfl) (Nat.le_of_ble_eq_true rfl) dRef_about_64
      · replace hf := g_it c_7 hf
        refine lv_aload_n hx hb dRef_about_33 rfl (lv_at hl 0 rfl) ?_
        replace hf := g_bd hf
        obtain ⟨r_12, hr_12, hf⟩ := hf
        refine g_getR hx hb hts in_Ref hown hK hW (ci := 9) (C := "SecretRowsModel") (T := T_Ref) (N := 36) rfl (k := 21) (by decide) (hts _ kw_541) (fun _ h9 => h9) hr_12 dRef_about_34 ?_
        refine lv_iload_n hx hb dRef_about_37 rfl (lv_at hl 1 rfl) ?_
        replace hf := g_bd hf
        obtain ⟨a_13, ea_13, hf⟩ := hf
        subst ea_13
        refine W.eq (g2 := F0 m 38 _ [.int i1, .ref a_13]) rfl ?_
        replace hf := g_bd hf
        obtain ⟨v_14, hv_14, hf⟩ := hf
        refine g_ald_i hx hb hK hW hv_14 dRef_about_38 ?_
        refine lv_aload_n hx hb dRef_about_39 rfl (lv_at hl 0 rfl) ?_
        replace hf := g_bd hf
        obtain ⟨r_15, hr_15, hf⟩ := hf
        refine g_getR hx hb hts in_Ref hown hK hW (ci := 9) (C := "SecretRowsModel") (T := T_Ref) (N := 36) rfl (k := 22) (by decide) (hts _ kw_542) (fun _ h9 => h9) hr_15 dRef_about_40 ?_
        refine lv_iload_n hx hb dRef_about_43 rfl (lv_at hl 1 rfl) ?_
        replace hf := g_bd hf
        obtain ⟨a_16, ea_16, hf⟩ := hf
        subst ea_16
        refine W.eq (g2 := F0 m 44 _ [.int i1, .ref a_16, .int v_14]) rfl ?_
        replace hf := g_bd hf
        obtain ⟨v_17, hv_17, hf⟩ := hf
        refine g_ald_i hx hb hK hW hv_17 dRef_about_44 ?_
        refine lv_isub hx hb dRef_about_45 ?_
        refine lv_goto (tgt := 64) hx hb dRef_about_46 (by decide) ?_
        cases hf
        exact g_reti hx hb hr hlocks hW hS (Nat.le_of_ble_eq_true rfl) (Nat.le_of_ble_eq_true rfl) dRef_about_64
    · replace hf := g_it c_6 hf
      refine lv_aload_n hx hb dRef_about_19 rfl (lv_at hl 0 rfl) ?_
      replace hf := g_bd hf
      obtain ⟨r_18, hr_18, hf⟩ := hf
      refine g_getR hx hb hts in_Ref hown hK hW (ci := 9) (C := "SecretRowsModel") (T := T_Ref) (N := 36) rfl (k := 24) (by decide) (hts _ kw_544) (fun _ h9 => h9) hr_18 dRef_about_20 ?_
      refine lv_iload_n hx hb dRef_about_23 rfl (lv_at hl 1 rfl) ?_
      replace hf := g_bd hf
      obtain ⟨a_19, ea_19, hf⟩ := hf
      subst ea_19
      refine W.eq (g2 := F0 m 24 _ [.int i1, .ref a_19]) rfl ?_
      replace hf := g_bd hf
      obtain ⟨v_20, hv_20, hf⟩ := hf
      refine g_ald_i hx hb hK hW hv_20 dRef_about_24 ?_
      refine lv_goto (tgt := 64) hx hb dRef_about_25 (by decide) ?_
      cases hf
      exact g_reti hx hb hr hlocks hW hS (Nat.le_of_ble_eq_true rfl) (Nat.le_of_ble_eq_true rfl) dRef_about_64
  · replace hf := g_it c_5 hf
    refine lv_iconst (v := (-1)) hx hb dRef_about_13 (by decide) ?_
    cases hf
    exact g_reti hx hb hr hlocks hW hS (Nat.le_of_ble_eq_true rfl) (Nat.le_of_ble_eq_true rfl) dRef_about_14

def fRef_token (n : Nat) (a0 : Nat) (i1 : Int32) (i2 : Int32) (i3 : Int32) (z : gS) : Option (Int32 × gS) :=
    (g_pF z a0 9 0 (.int 0)).bind fun z_1 =>
    (g_is z_1 a0 9).bind fun _ =>
    g_bp (fRef_keptOf n a0 i1 i2 z_1) fun v_4 z_3 =>
    if v_4 = (-1) then (
    some ((-1), z_3))
    else (
    (g_fI z_3 a0 9 5).bind fun v_6 =>
    if v_6 = 20 then (
    some ((-1), z_3))
    else (
    if i3 < 1 then (
    some ((-1), z_3))
    else (
    if i3 ≤ 100000 then (
    (g_fR z_3 a0 9 30).bind fun r_10 =>
    (g_fI z_3 a0 9 5).bind fun v_11 =>
    r_10.bind fun a_12 =>
    (g_stI z_3 .int a_12 v_11 i2).bind fun z_13 =>
    (g_fR z_13 a0 9 31).bind fun r_14 =>
    (g_fI z_13 a0 9 5).bind fun v_15 =>
    (g_is z_13 a0 9).bind fun _ =>
    g_bp (fRef_keptOf n a0 i1 i2 z_13) fun v_18 z_17 =>
    r_14.bind fun a_19 =>
    (g_stI z_17 .int a_19 v_15 v_18).bind fun z_20 =>
    (g_fR z_20 a0 9 32).bind fun r_21 =>
    (g_fI z_20 a0 9 5).bind fun v_22 =>
    (g_fI z_20 a0 9 1).bind fun v_23 =>
    r_21.bind fun a_24 =>
    (g_stI z_20 .int a_24 v_22 (v_23 + i3)).bind fun z_25 =>
    (g_fI z_25 a0 9 5).bind fun v_26 =>
    (g_pF z_25 a0 9 5 (.int (v_26 + 1))).bind fun z_27 =>
    (g_fI z_27 a0 9 5).bind fun v_28 =>
    some ((v_28 - 1), z_27))
    else (
    some ((-1), z_3)))))
set_option maxHeartbeats 4000000 in
set_option maxRecDepth 100000 in
theorem mRef_token (l : Launch) (D : va_G) (A : Nat → Prop) (n : Nat) (z z' : gS) (a0 : Nat) (i1 : Int32) (i2 : Int32) (i3 : Int32) (r : Int32) (hf : fRef_token n a0 i1 i2 i3 z = some (r, z')) : Met l yRef_token wsRef_token ({ frames := 2, cells := 0, slots := 0, locals := 43 }) (g_P D vwCl gNN gOO A z [.ref a0, .int i1, .int i2, .int i3]) (g_Qi D vwCl A r z') 0 0 A := by
  refine Met.ofW (cc := cRef_token) (maxL := 4) (ret := (some .int)) (by decide) rfl ?_
  intro p e s m args below meth c s₁ B hml hv
  obtain ⟨rfl, hW, hK, hA0⟩ := hv
  have C : g_C p s m meth c _ cRef_token 4 (some .int) "SecretRowsModel" gW D vwCl gNN gOO A := ⟨B.exec, B.bytes, B.returns, hml, findClass_of_methodNamed B.named, fun w hw => atoms_spec (ws := wsRef_token) B.pre w (List.mem_cons_of_mem _ hw), B.notSynchronized, hK, fun q hq => hA0 q (by rw [← hW.1]; exact hq)⟩
  have hS : va_S A s.heap s.heap [] := va_S.rf
  have hl := lv_entry ([.ref a0, .int i1, .int i2, .int i3]) (n := 4) (Nat.le_of_ble_eq_true rfl)
  rw [lg_entry_eq]
  generalize (lg_sl ([.ref a0, .int i1, .int i2, .int i3]) ++ List.replicate (4 - (lg_sl ([.ref a0, .int i1, .int i2, .int i3])).length) Slot.unset).toArray = ls at hl ⊢
  have hl : lv_has ls 4 [(0, .ref a0), (1, .int i1), (2, .int i2), (3, .int i3)] := hl
  obtain ⟨hx, hb, hr, hml, hown, hts, hlocks, hK, hA⟩ := id C
  unfold fRef_token at hf
  refine lv_aload_n hx hb dRef_token_0 rfl (lv_at hl 0 rfl) ?_
  refine lv_iconst (v := 0) hx hb dRef_token_1 (by decide) ?_
  replace hf := g_bd hf
  obtain ⟨z_1, hz_1, hf⟩ := hf
  refine g_put hx hb hts in_Ref ty_Ref tyok_Ref nm_Ref hown hK hW hS (ci := 9) (C := "SecretRowsModel") (T := T_Ref) (N := 36) rfl (k := 0) (by decide) (hts _ kw_520) (fun _ h9 => h9) rfl (ty := .int) (by decide +kernel) rfl rfl hz_1 dRef_token_2 (fun H locs hW hS => ?_)
  refine lv_aload_n hx hb dRef_token_5 rfl (lv_at hl 0 rfl) ?_
  refine lv_iload_n hx hb dRef_token_6 rfl (lv_at hl 1 rfl) ?_
  refine lv_iload_n hx hb dRef_token_7 rfl (lv_at hl 2 rfl) ?_
  replace hf := g_bd hf
  obtain ⟨_, hi_2, hf⟩ := hf
  replace hf := g_bps hf
  obtain ⟨v_4, z_3, hz_3, hf⟩ := hf
  refine g_goi (g_rV (As := [.int i1, .int i2]) (rest := []) ⟨hx, hb, hml, hown, hts⟩ (mRef_keptOf l D A n _ _ a0 i1 i2 _ hz_3) (cwV 2 hts (gi_V kw_668 kw_670 ks_Ref_keptOf kw_6 kw_671) rfl rfl rfl ⟨rfl, hdRef_keptOf⟩ ⟨Nat.le_of_ble_eq_true rfl, Nat.le_of_ble_eq_true rfl⟩) hK hW hS hA (ci := 9) (T := T_Ref) (N := 36) rfl hi_2 rfl hl.1 rfl (Nat.le_of_ble_eq_true rfl) dRef_token_8 ⟨Nat.le_of_ble_eq_true rfl, Nat.le_of_ble_eq_true rfl⟩) hS (fun H locs hW hS => ?_)
  refine lv_iconst (v := (-1)) hx hb dRef_token_11 (by decide) ?_
  refine lv_icmp_eq (tgt := 35) hx hb dRef_token_12 (by decide) (fun c_5 => ?_) (fun c_5 => ?_)
  · replace hf := g_it c_5 hf
    refine lv_iconst (v := (-1)) hx hb dRef_token_35 (by decide) ?_
    cases hf
    exact g_reti hx hb hr hlocks hW hS (Nat.le_of_ble_eq_true rfl) (Nat.le_of_ble_eq_true rfl) dRef_token_36
  · replace hf := g_if c_5 hf
    refine lv_aload_n hx hb dRef_token_15 rfl (lv_at hl 0 rfl) ?_
    replace hf := g_bd hf
    obtain ⟨v_6, hv_6, hf⟩ := hf
    refine g_getI hx hb hts in_Ref hown hK hW (ci := 9) (C := "SecretRowsModel") (T := T_Ref) (N := 36) rfl (k := 5) (by decide) (hts _ kw_525) (fun _ h9 => h9) hv_6 dRef_token_16 ?_
    refine lv_bipush (v := 20) hx hb dRef_token_19 (by decide) ?_
    refine lv_icmp_eq (tgt := 35) hx hb dRef_token_21 (by decide) (fun c_7 => ?_) (fun c_7 => ?_)
    · replace hf := g_it c_7 hf
      refine lv_iconst (v := (-1)) hx hb dRef_token_35 (by decide) ?_
      cases hf
      exact g_reti hx hb hr hlocks hW hS (Nat.le_of_ble_eq_true rfl) (Nat.le_of_ble_eq_true rfl) dRef_token_36
    · replace hf := g_if c_7 hf
      refine lv_iload_n hx hb dRef_token_24 rfl (lv_at hl 3 rfl) ?_
      refine lv_iconst (v := 1) hx hb dRef_token_25 (by decide) ?_
      refine lv_icmp_lt (tgt := 35) hx hb dRef_token_26 (by decide) (fun c_8 => ?_) (fun c_8 => ?_)
      · replace hf := g_it c_8 hf
        refine lv_iconst (v := (-1)) hx hb dRef_token_35 (by decide) ?_
        cases hf
        exact g_reti hx hb hr hlocks hW hS (Nat.le_of_ble_eq_true rfl) (Nat.le_of_ble_eq_true rfl) dRef_token_36
      · replace hf := g_if c_8 hf
        refine lv_iload_n hx hb dRef_token_29 rfl (lv_at hl 3 rfl) ?_
        refine lv_ldc (v := 100000) hx hb hown (hts _ kw_646) dRef_token_30 ?_
        refine lv_icmp_le (tgt := 37) hx hb dRef_token_32 (by decide) (fun c_9 => ?_) (fun c_9 => ?_)
        · replace hf := g_it c_9 hf
          refine lv_aload_n hx hb dRef_token_37 rfl (lv_at hl 0 rfl) ?_
          replace hf := g_bd hf
          obtain ⟨r_10, hr_10, hf⟩ := hf
          refine g_getR hx hb hts in_Ref hown hK hW (ci := 9) (C := "SecretRowsModel") (T := T_Ref) (N := 36) rfl (k := 30) (by decide) (hts _ kw_550) (fun _ h9 => h9) hr_10 dRef_token_38 ?_
          refine lv_aload_n hx hb dRef_token_41 rfl (lv_at hl 0 rfl) ?_
          replace hf := g_bd hf
          obtain ⟨v_11, hv_11, hf⟩ := hf
          refine g_getI hx hb hts in_Ref hown hK hW (ci := 9) (C := "SecretRowsModel") (T := T_Ref) (N := 36) rfl (k := 5) (by decide) (hts _ kw_525) (fun _ h9 => h9) hv_11 dRef_token_42 ?_
          refine lv_iload_n hx hb dRef_token_45 rfl (lv_at hl 2 rfl) ?_
          replace hf := g_bd hf
          obtain ⟨a_12, ea_12, hf⟩ := hf
          subst ea_12
          refine W.eq (g2 := F0 m 46 _ [.int i2, .int v_11, .ref a_12]) rfl ?_
          replace hf := g_bd hf
          obtain ⟨z_13, hz_13, hf⟩ := hf
          refine g_ast_i hx hb hW hS hz_13 dRef_token_46 (fun H locs hW hS => ?_)
          refine lv_aload_n hx hb dRef_token_47 rfl (lv_at hl 0 rfl) ?_
          replace hf := g_bd hf
          obtain ⟨r_14, hr_14, hf⟩ := hf
          refine g_getR hx hb hts in_Ref hown hK hW (ci := 9) (C := "SecretRowsModel") (T := T_Ref) (N := 36) rfl (k := 31) (by decide) (hts _ kw_551) (fun _ h9 => h9) hr_14 dRef_token_48 ?_
          refine lv_aload_n hx hb dRef_token_51 rfl (lv_at hl 0 rfl) ?_
          replace hf := g_bd hf
          obtain ⟨v_15, hv_15, hf⟩ := hf
          refine g_getI hx hb hts in_Ref hown hK hW (ci := 9) (C := "SecretRowsModel") (T := T_Ref) (N := 36) rfl (k := 5) (by decide) (hts _ kw_525) (fun _ h9 => h9) hv_15 dRef_token_52 ?_
          refine lv_aload_n hx hb dRef_token_55 rfl (lv_at hl 0 rfl) ?_
          refine lv_iload_n hx hb dRef_token_56 rfl (lv_at hl 1 rfl) ?_
          refine lv_iload_n hx hb dRef_token_57 rfl (lv_at hl 2 rfl) ?_
          replace hf := g_bd hf
          obtain ⟨_, hi_16, hf⟩ := hf
          replace hf := g_bps hf
          obtain ⟨v_18, z_17, hz_17, hf⟩ := hf
          refine g_goi (g_rV (As := [.int i1, .int i2]) (rest := [.int v_15, va_rf r_14]) ⟨hx, hb, hml, hown, hts⟩ (mRef_keptOf l D A n _ _ a0 i1 i2 _ hz_17) (cwV 2 hts (gi_V kw_668 kw_670 ks_Ref_keptOf kw_6 kw_671) rfl rfl rfl ⟨rfl, hdRef_keptOf⟩ ⟨Nat.le_of_ble_eq_true rfl, Nat.le_of_ble_eq_true rfl⟩) hK hW hS hA (ci := 9) (T := T_Ref) (N := 36) rfl hi_16 rfl hl.1 rfl (by simp only [List.map_cons, List.map_nil, g_cat]; exact Nat.le_of_ble_eq_true rfl) dRef_token_58 ⟨Nat.le_of_ble_eq_true rfl, Nat.le_of_ble_eq_true rfl⟩) hS (fun H locs hW hS => ?_)
          replace hf := g_bd hf
          obtain ⟨a_19, ea_19, hf⟩ := hf
          subst ea_19
          refine W.eq (g2 := F0 m 61 _ [.int v_18, .int v_15, .ref a_19]) rfl ?_
          replace hf := g_bd hf
          obtain ⟨z_20, hz_20, hf⟩ := hf
          refine g_ast_i hx hb hW hS hz_20 dRef_token_61 (fun H locs hW hS => ?_)
          refine lv_aload_n hx hb dRef_token_62 rfl (lv_at hl 0 rfl) ?_
          replace hf := g_bd hf
          obtain ⟨r_21, hr_21, hf⟩ := hf
          refine g_getR hx hb hts in_Ref hown hK hW (ci := 9) (C := "SecretRowsModel") (T := T_Ref) (N := 36) rfl (k := 32) (by decide) (hts _ kw_552) (fun _ h9 => h9) hr_21 dRef_token_63 ?_
          refine lv_aload_n hx hb dRef_token_66 rfl (lv_at hl 0 rfl) ?_
          replace hf := g_bd hf
          obtain ⟨v_22, hv_22, hf⟩ := hf
          refine g_getI hx hb hts in_Ref hown hK hW (ci := 9) (C := "SecretRowsModel") (T := T_Ref) (N := 36) rfl (k := 5) (by decide) (hts _ kw_525) (fun _ h9 => h9) hv_22 dRef_token_67 ?_
          refine lv_aload_n hx hb dRef_token_70 rfl (lv_at hl 0 rfl) ?_
          replace hf := g_bd hf
          obtain ⟨v_23, hv_23, hf⟩ := hf
          refine g_getI hx hb hts in_Ref hown hK hW (ci := 9) (C := "SecretRowsModel") (T := T_Ref) (N := 36) rfl (k := 1) (by decide) (hts _ kw_521) (fun _ h9 => h9) hv_23 dRef_token_71 ?_
          refine lv_iload_n hx hb dRef_token_74 rfl (lv_at hl 3 rfl) ?_
          refine lv_iadd hx hb dRef_token_75 ?_
          replace hf := g_bd hf
          obtain ⟨a_24, ea_24, hf⟩ := hf
          subst ea_24
          refine W.eq (g2 := F0 m 76 _ [.int (v_23 + i3), .int v_22, .ref a_24]) rfl ?_
          replace hf := g_bd hf
          obtain ⟨z_25, hz_25, hf⟩ := hf
          refine g_ast_i hx hb hW hS hz_25 dRef_token_76 (fun H locs hW hS => ?_)
          refine lv_aload_n hx hb dRef_token_77 rfl (lv_at hl 0 rfl) ?_
          refine lv_dup hx hb dRef_token_78 rfl ?_
          replace hf := g_bd hf
          obtain ⟨v_26, hv_26, hf⟩ := hf
          refine g_getI hx hb hts in_Ref hown hK hW (ci := 9) (C := "SecretRowsModel") (T := T_Ref) (N := 36) rfl (k := 5) (by decide) (hts _ kw_525) (fun _ h9 => h9) hv_26 dRef_token_79 ?_
          refine lv_iconst (v := 1) hx hb dRef_token_82 (by decide) ?_
          refine lv_iadd hx hb dRef_token_83 ?_
          replace hf := g_bd hf
          obtain ⟨z_27, hz_27, hf⟩ := hf
          refine g_put hx hb hts in_Ref ty_Ref tyok_Ref nm_Ref hown hK hW hS (ci := 9) (C := "SecretRowsModel") (T := T_Ref) (N := 36) rfl (k := 5) (by decide) (hts _ kw_525) (fun _ h9 => h9) rfl (ty := .int) (by decide +kernel) rfl rfl hz_27 dRef_token_84 (fun H locs hW hS => ?_)
          refine lv_aload_n hx hb dRef_token_87 rfl (lv_at hl 0 rfl) ?_
          replace hf := g_bd hf
          obtain ⟨v_28, hv_28, hf⟩ := hf
          refine g_getI hx hb hts in_Ref hown hK hW (ci := 9) (C := "SecretRowsModel") (T := T_Ref) (N := 36) rfl (k := 5) (by decide) (hts _ kw_525) (fun _ h9 => h9) hv_28 dRef_token_88 ?_
          refine lv_iconst (v := 1) hx hb dRef_token_91 (by decide) ?_
          refine lv_isub hx hb dRef_token_92 ?_
          cases hf
          exact g_reti hx hb hr hlocks hW hS (Nat.le_of_ble_eq_true rfl) (Nat.le_of_ble_eq_true rfl) dRef_token_93
        · replace hf := g_if c_9 hf
          refine lv_iconst (v := (-1)) hx hb dRef_token_35 (by decide) ?_
          cases hf
          exact g_reti hx hb hr hlocks hW hS (Nat.le_of_ble_eq_true rfl) (Nat.le_of_ble_eq_true rfl) dRef_token_36

def fRef_good (n : Nat) (a0 : Nat) (i1 : Int32) (z : gS) : Option (Int32 × gS) :=
    (g_pF z a0 9 0 (.int 0)).bind fun z_1 =>
    if i1 < 0 then (
    some (0, z_1))
    else (
    (g_fI z_1 a0 9 5).bind fun v_3 =>
    if v_3 ≤ i1 then (
    some (0, z_1))
    else (
    (g_fI z_1 a0 9 1).bind fun v_5 =>
    (g_fR z_1 a0 9 32).bind fun r_6 =>
    r_6.bind fun a_7 =>
    (g_ldI z_1 .int a_7 i1).bind fun v_8 =>
    if v_8 ≤ v_5 then (
    some (0, z_1))
    else (
    (g_fR z_1 a0 9 16).bind fun r_10 =>
    (g_fR z_1 a0 9 30).bind fun r_11 =>
    r_11.bind fun a_12 =>
    (g_ldI z_1 .int a_12 i1).bind fun v_13 =>
    r_10.bind fun a_14 =>
    (g_ldI z_1 .boolean a_14 v_13).bind fun v_15 =>
    if v_15 = 0 then (
    (g_fR z_1 a0 9 31).bind fun r_17 =>
    r_17.bind fun a_18 =>
    (g_ldI z_1 .int a_18 i1).bind fun v_19 =>
    (g_fR z_1 a0 9 13).bind fun r_20 =>
    (g_fR z_1 a0 9 30).bind fun r_21 =>
    r_21.bind fun a_22 =>
    (g_ldI z_1 .int a_22 i1).bind fun v_23 =>
    r_20.bind fun a_24 =>
    (g_ldI z_1 .int a_24 v_23).bind fun v_25 =>
    if v_19 = v_25 then (
    some (1, z_1))
    else (
    some (0, z_1)))
    else (
    some (0, z_1)))))
set_option maxHeartbeats 4000000 in
set_option maxRecDepth 100000 in
theorem mRef_good (l : Launch) (D : va_G) (A : Nat → Prop) (n : Nat) (z z' : gS) (a0 : Nat) (i1 : Int32) (r : Int32) (hf : fRef_good n a0 i1 z = some (r, z')) : Met l yRef_good wsRef_good ({ frames := 0, cells := 0, slots := 0, locals := 0 }) (g_P D vwCl gNN gOO A z [.ref a0, .int i1]) (g_Qi D vwCl A r z') 0 0 A := by
  refine Met.ofW (cc := cRef_good) (maxL := 2) (ret := (some .boolean)) (by decide) rfl ?_
  intro p e s m args below meth c s₁ B hml hv
  obtain ⟨rfl, hW, hK, hA0⟩ := hv
  have C : g_C p s m meth c _ cRef_good 2 (some .boolean) "SecretRowsModel" gW D vwCl gNN gOO A := ⟨B.exec, B.bytes, B.returns, hml, findClass_of_methodNamed B.named, fun w hw => atoms_spec (ws := wsRef_good) B.pre w (List.mem_cons_of_mem _ hw), B.notSynchronized, hK, fun q hq => hA0 q (by rw [← hW.1]; exact hq)⟩
  have hS : va_S A s.heap s.heap [] := va_S.rf
  have hl := lv_entry ([.ref a0, .int i1]) (n := 2) (Nat.le_of_ble_eq_true rfl)
  rw [lg_entry_eq]
  generalize (lg_sl ([.ref a0, .int i1]) ++ List.replicate (2 - (lg_sl ([.ref a0, .int i1])).length) Slot.unset).toArray = ls at hl ⊢
  have hl : lv_has ls 2 [(0, .ref a0), (1, .int i1)] := hl
  obtain ⟨hx, hb, hr, hml, hown, hts, hlocks, hK, hA⟩ := id C
  unfold fRef_good at hf
  refine lv_aload_n hx hb dRef_good_0 rfl (lv_at hl 0 rfl) ?_
  refine lv_iconst (v := 0) hx hb dRef_good_1 (by decide) ?_
  replace hf := g_bd hf
  obtain ⟨z_1, hz_1, hf⟩ := hf
  refine g_put hx hb hts in_Ref ty_Ref tyok_Ref nm_Ref hown hK hW hS (ci := 9) (C := "SecretRowsModel") (T := T_Ref) (N := 36) rfl (k := 0) (by decide) (hts _ kw_520) (fun _ h9 => h9) rfl (ty := .int) (by decide +kernel) rfl rfl hz_1 dRef_good_2 (fun H locs hW hS => ?_)
  refine lv_iload_n hx hb dRef_good_5 rfl (lv_at hl 1 rfl) ?_
  refine lv_if_lt (tgt := 68) hx hb dRef_good_6 (by decide) (fun c_2 => ?_) (fun c_2 => ?_)
  · replace hf := g_it c_2 hf
    refine lv_iconst (v := 0) hx hb dRef_good_68 (by decide) ?_
    cases hf
    exact g_retz hx hb hr rfl hlocks hW hS (Nat.le_of_ble_eq_true rfl) (Nat.le_of_ble_eq_true rfl) dRef_good_69
  · replace hf := g_if c_2 hf
    refine lv_iload_n hx hb dRef_good_9 rfl (lv_at hl 1 rfl) ?_
    refine lv_aload_n hx hb dRef_good_10 rfl (lv_at hl 0 rfl) ?_
    replace hf := g_bd hf
    obtain ⟨v_3, hv_3, hf⟩ := hf
    refine g_getI hx hb hts in_Ref hown hK hW (ci := 9) (C := "SecretRowsModel") (T := T_Ref) (N := 36) rfl (k := 5) (by decide) (hts _ kw_525) (fun _ h9 => h9) hv_3 dRef_good_11 ?_
    refine lv_icmp_ge (tgt := 68) hx hb dRef_good_14 (by decide) (fun c_4 => ?_) (fun c_4 => ?_)
    · replace hf := g_it c_4 hf
      refine lv_iconst (v := 0) hx hb dRef_good_68 (by decide) ?_
      cases hf
      exact g_retz hx hb hr rfl hlocks hW hS (Nat.le_of_ble_eq_true rfl) (Nat.le_of_ble_eq_true rfl) dRef_good_69
    · replace hf := g_if c_4 hf
      refine lv_aload_n hx hb dRef_good_17 rfl (lv_at hl 0 rfl) ?_
      replace hf := g_bd hf
      obtain ⟨v_5, hv_5, hf⟩ := hf
      refine g_getI hx hb hts in_Ref hown hK hW (ci := 9) (C := "SecretRowsModel") (T := T_Ref) (N := 36) rfl (k := 1) (by decide) (hts _ kw_521) (fun _ h9 => h9) hv_5 dRef_good_18 ?_
      refine lv_aload_n hx hb dRef_good_21 rfl (lv_at hl 0 rfl) ?_
      replace hf := g_bd hf
      obtain ⟨r_6, hr_6, hf⟩ := hf
      refine g_getR hx hb hts in_Ref hown hK hW (ci := 9) (C := "SecretRowsModel") (T := T_Ref) (N := 36) rfl (k := 32) (by decide) (hts _ kw_552) (fun _ h9 => h9) hr_6 dRef_good_22 ?_
      refine lv_iload_n hx hb dRef_good_25 rfl (lv_at hl 1 rfl) ?_
      replace hf := g_bd hf
      obtain ⟨a_7, ea_7, hf⟩ := hf
      subst ea_7
      refine W.eq (g2 := F0 m 26 _ [.int i1, .ref a_7, .int v_5]) rfl ?_
      replace hf := g_bd hf
      obtain ⟨v_8, hv_8, hf⟩ := hf
      refine g_ald_i hx hb hK hW hv_8 dRef_good_26 ?_
      refine lv_icmp_ge (tgt := 68) hx hb dRef_good_27 (by decide) (fun c_9 => ?_) (fun c_9 => ?_)
      · replace hf := g_it c_9 hf
        refine lv_iconst (v := 0) hx hb dRef_good_68 (by decide) ?_
        cases hf
        exact g_retz hx hb hr rfl hlocks hW hS (Nat.le_of_ble_eq_true rfl) (Nat.le_of_ble_eq_true rfl) dRef_good_69
      · replace hf := g_if c_9 hf
        refine lv_aload_n hx hb dRef_good_30 rfl (lv_at hl 0 rfl) ?_
        replace hf := g_bd hf
        obtain ⟨r_10, hr_10, hf⟩ := hf
        refine g_getR hx hb hts in_Ref hown hK hW (ci := 9) (C := "SecretRowsModel") (T := T_Ref) (N := 36) rfl (k := 16) (by decide) (hts _ kw_536) (fun _ h9 => h9) hr_10 dRef_good_31 ?_
        refine lv_aload_n hx hb dRef_good_34 rfl (lv_at hl 0 rfl) ?_
        replace hf := g_bd hf
        obtain ⟨r_11, hr_11, hf⟩ := hf
        refine g_getR hx hb hts in_Ref hown hK hW (ci := 9) (C := "SecretRowsModel") (T := T_Ref) (N := 36) rfl (k := 30) (by decide) (hts _ kw_550) (fun _ h9 => h9) hr_11 dRef_good_35 ?_
        refine lv_iload_n hx hb dRef_good_38 rfl (lv_at hl 1 rfl) ?_
        replace hf := g_bd hf
        obtain ⟨a_12, ea_12, hf⟩ := hf
        subst ea_12
        refine W.eq (g2 := F0 m 39 _ [.int i1, .ref a_12, va_rf r_10]) rfl ?_
        replace hf := g_bd hf
        obtain ⟨v_13, hv_13, hf⟩ := hf
        refine g_ald_i hx hb hK hW hv_13 dRef_good_39 ?_
        replace hf := g_bd hf
        obtain ⟨a_14, ea_14, hf⟩ := hf
        subst ea_14
        refine W.eq (g2 := F0 m 40 _ [.int v_13, .ref a_14]) rfl ?_
        replace hf := g_bd hf
        obtain ⟨v_15, hv_15, hf⟩ := hf
        refine g_ald_z hx hb hK hW hv_15 dRef_good_40 ?_
        refine lv_if_ne (tgt := 68) hx hb dRef_good_41 (by decide) (fun c_16 => ?_) (fun c_16 => ?_)
        · replace hf := g_if c_16 hf
          refine lv_iconst (v := 0) hx hb dRef_good_68 (by decide) ?_
          cases hf
          exact g_retz hx hb hr rfl hlocks hW hS (Nat.le_of_ble_eq_true rfl) (Nat.le_of_ble_eq_true rfl) dRef_good_69
        · replace hf := g_it c_16 hf
          refine lv_aload_n hx hb dRef_good_44 rfl (lv_at hl 0 rfl) ?_
          replace hf := g_bd hf
          obtain ⟨r_17, hr_17, hf⟩ := hf
          refine g_getR hx hb hts in_Ref hown hK hW (ci := 9) (C := "SecretRowsModel") (T := T_Ref) (N := 36) rfl (k := 31) (by decide) (hts _ kw_551) (fun _ h9 => h9) hr_17 dRef_good_45 ?_
          refine lv_iload_n hx hb dRef_good_48 rfl (lv_at hl 1 rfl) ?_
          replace hf := g_bd hf
          obtain ⟨a_18, ea_18, hf⟩ := hf
          subst ea_18
          refine W.eq (g2 := F0 m 49 _ [.int i1, .ref a_18]) rfl ?_
          replace hf := g_bd hf
          obtain ⟨v_19, hv_19, hf⟩ := hf
          refine g_ald_i hx hb hK hW hv_19 dRef_good_49 ?_
          refine lv_aload_n hx hb dRef_good_50 rfl (lv_at hl 0 rfl) ?_
          replace hf := g_bd hf
          obtain ⟨r_20, hr_20, hf⟩ := hf
          refine g_getR hx hb hts in_Ref hown hK hW (ci := 9) (C := "SecretRowsModel") (T := T_Ref) (N := 36) rfl (k := 13) (by decide) (hts _ kw_533) (fun _ h9 => h9) hr_20 dRef_good_51 ?_
          refine lv_aload_n hx hb dRef_good_54 rfl (lv_at hl 0 rfl) ?_
          replace hf := g_bd hf
          obtain ⟨r_21, hr_21, hf⟩ := hf
          refine g_getR hx hb hts in_Ref hown hK hW (ci := 9) (C := "SecretRowsModel") (T := T_Ref) (N := 36) rfl (k := 30) (by decide) (hts _ kw_550) (fun _ h9 => h9) hr_21 dRef_good_55 ?_
          refine lv_iload_n hx hb dRef_good_58 rfl (lv_at hl 1 rfl) ?_
          replace hf := g_bd hf
          obtain ⟨a_22, ea_22, hf⟩ := hf
          subst ea_22
          refine W.eq (g2 := F0 m 59 _ [.int i1, .ref a_22, va_rf r_20, .int v_19]) rfl ?_
          replace hf := g_bd hf
          obtain ⟨v_23, hv_23, hf⟩ := hf
          refine g_ald_i hx hb hK hW hv_23 dRef_good_59 ?_
          replace hf := g_bd hf
          obtain ⟨a_24, ea_24, hf⟩ := hf
          subst ea_24
          refine W.eq (g2 := F0 m 60 _ [.int v_23, .ref a_24, .int v_19]) rfl ?_
          replace hf := g_bd hf
          obtain ⟨v_25, hv_25, hf⟩ := hf
          refine g_ald_i hx hb hK hW hv_25 dRef_good_60 ?_
          refine lv_icmp_ne (tgt := 68) hx hb dRef_good_61 (by decide) (fun c_26 => ?_) (fun c_26 => ?_)
          · replace hf := g_if c_26 hf
            refine lv_iconst (v := 0) hx hb dRef_good_68 (by decide) ?_
            cases hf
            exact g_retz hx hb hr rfl hlocks hW hS (Nat.le_of_ble_eq_true rfl) (Nat.le_of_ble_eq_true rfl) dRef_good_69
          · replace hf := g_it c_26 hf
            refine lv_iconst (v := 1) hx hb dRef_good_64 (by decide) ?_
            refine lv_goto (tgt := 69) hx hb dRef_good_65 (by decide) ?_
            cases hf
            exact g_retz hx hb hr rfl hlocks hW hS (Nat.le_of_ble_eq_true rfl) (Nat.le_of_ble_eq_true rfl) dRef_good_69

def fRef_scan_L51 (n : Nat) (k17 : Nat → Int32 → Int32 → gS → Option (Int32 × gS)) (k27 : Nat → Int32 → Int32 → Int32 → Int32 → gS → Option (Int32 × gS)) (k39 : Nat → Int32 → Int32 → Int32 → Int32 → Int32 → gS → Option (Int32 × gS)) : Nat → Nat → Int32 → Int32 → Int32 → Int32 → Int32 → Int32 → gS → Option (Int32 × gS)
  | 0, _, _, _, _, _, _, _, _ => none
  | k + 1, a0b, i1b, i2b, i3b, i4b, i5b, i6b, z =>
    if 3 ≤ i6b then (
    k39 a0b i1b i2b i3b i4b (i5b + 1) z)
    else (
    (g_fR z a0b 9 7).bind fun r_11 =>
    r_11.bind fun a_12 =>
    (g_ldI z .int a_12 i5b).bind fun v_13 =>
    if v_13 = i4b then (
    (g_is z a0b 9).bind fun _ =>
    g_bp (fRef_counts n a0b i5b z) fun v_17 z_16 =>
    if v_17 = 0 then (
    k39 a0b i1b i2b i3b i4b (i5b + 1) z_16)
    else (
    (g_is z_16 a0b 9).bind fun _ =>
    g_bp (fRef_formLength n a0b i5b i6b z_16) fun v_21 z_20 =>
    if v_21 ≤ i3b then (
    fRef_scan_L51 n k17 k27 k39 k a0b i1b i2b i3b i4b i5b (i6b + 1) z_20)
    else (
    (g_fR z_20 a0b 9 17).bind fun r_23 =>
    r_23.bind fun a_24 =>
    (g_is z_20 a0b 9).bind fun _ =>
    g_bp (fRef_common n a0b a_24 i2b i1b i5b i6b z_20) fun v_27 z_26 =>
    if v_21 ≤ v_27 then (
    (g_pF z_26 a0b 9 33 (.int i4b)).bind fun z_29 =>
    (g_pF z_29 a0b 9 34 (.int i6b)).bind fun z_30 =>
    (g_fR z_30 a0b 9 13).bind fun r_31 =>
    r_31.bind fun a_32 =>
    (g_ldI z_30 .int a_32 i4b).bind fun v_33 =>
    if v_33 = i5b then (
    (g_pF z_30 a0b 9 35 (.int 0)).bind fun z_36 =>
    fRef_scan_L51 n k17 k27 k39 k a0b i1b i2b v_21 i4b i5b (i6b + 1) z_36)
    else (
    (g_pF z_30 a0b 9 35 (.int 1)).bind fun z_35 =>
    fRef_scan_L51 n k17 k27 k39 k a0b i1b i2b v_21 i4b i5b (i6b + 1) z_35))
    else (
    fRef_scan_L51 n k17 k27 k39 k a0b i1b i2b i3b i4b i5b (i6b + 1) z_26))))
    else (
    k39 a0b i1b i2b i3b i4b (i5b + 1) z))
set_option maxHeartbeats 4000000 in
set_option maxRecDepth 100000 in
theorem bRef_scan_51 {p : Program} {l : Launch} {e : Env} {s : State} {m : MethodId} {args : Array Value} {below : List Frame} {meth : Method} {c : Code} {D : va_G} {A : Nat → Prop} (C : g_C p s m meth c args cRef_scan 8 (some .int) "SecretRowsModel" gW D vwCl gNN gOO A) (n : Nat) {r : Int32} {z' : gS}
    {k17 : Nat → Int32 → Int32 → gS → Option (Int32 × gS)} (hk17 : ∀ (a0b : Nat) (i1b : Int32) (i2b : Int32) (z : gS) (H : Heap) (locs : List Loc) (ls : Array Slot), k17 a0b i1b i2b z = some (r, z') → g_W D vwCl A z s H → va_S A s.heap H locs → lv_has ls 8 [(0, .ref a0b), (1, .int i1b), (2, .int i2b)] → W p l e (headSpec wsRef_scan ({ frames := 3, cells := 0, slots := 0, locals := 69 })).room s m args below meth c H locs 0 0 (MQ below (g_Qi D vwCl A r z') args s 0 0 A) (F0 m 17 ls []))
    {k27 : Nat → Int32 → Int32 → Int32 → Int32 → gS → Option (Int32 × gS)} (hk27 : ∀ (a0b : Nat) (i1b : Int32) (i2b : Int32) (i3b : Int32) (i4b : Int32) (z : gS) (H : Heap) (locs : List Loc) (ls : Array Slot), k27 a0b i1b i2b i3b i4b z = some (r, z') → g_W D vwCl A z s H → va_S A s.heap H locs → lv_has ls 8 [(0, .ref a0b), (1, .int i1b), (2, .int i2b), (3, .int i3b), (4, .int i4b)] → W p l e (headSpec wsRef_scan ({ frames := 3, cells := 0, slots := 0, locals := 69 })).room s m args below meth c H locs 0 0 (MQ below (g_Qi D vwCl A r z') args s 0 0 A) (F0 m 27 ls []))
    {k39 : Nat → Int32 → Int32 → Int32 → Int32 → Int32 → gS → Option (Int32 × gS)} (hk39 : ∀ (a0b : Nat) (i1b : Int32) (i2b : Int32) (i3b : Int32) (i4b : Int32) (i5b : Int32) (z : gS) (H : Heap) (locs : List Loc) (ls : Array Slot), k39 a0b i1b i2b i3b i4b i5b z = some (r, z') → g_W D vwCl A z s H → va_S A s.heap H locs → lv_has ls 8 [(0, .ref a0b), (1, .int i1b), (2, .int i2b), (3, .int i3b), (4, .int i4b), (5, .int i5b)] → W p l e (headSpec wsRef_scan ({ frames := 3, cells := 0, slots := 0, locals := 69 })).room s m args below meth c H locs 0 0 (MQ below (g_Qi D vwCl A r z') args s 0 0 A) (F0 m 39 ls [])) : ∀ k : Nat, ∀ (a0b : Nat) (i1b : Int32) (i2b : Int32) (i3b : Int32) (i4b : Int32) (i5b : Int32) (i6b : Int32) (z : gS) (H : Heap) (locs : List Loc) (ls : Array Slot), fRef_scan_L51 n k17 k27 k39 k a0b i1b i2b i3b i4b i5b i6b z = some (r, z') → g_W D vwCl A z s H → va_S A s.heap H locs → lv_has ls 8 [(0, .ref a0b), (1, .int i1b), (2, .int i2b), (3, .int i3b), (4, .int i4b), (5, .int i5b), (6, .int i6b)] → W p l e (headSpec wsRef_scan ({ frames := 3, cells := 0, slots := 0, locals := 69 })).room s m args below meth c H locs 0 0 (MQ below (g_Qi D vwCl A r z') args s 0 0 A) (F0 m 51 ls []) := by
  obtain ⟨hx, hb, hr, hml, hown, hts, hlocks, hK, hA⟩ := id C
  intro k
  induction k with
  | zero =>
    intro a0b i1b i2b i3b i4b i5b i6b z H locs ls hf
    have hf : (none : Option (Int32 × gS)) = some _ := hf
    cases hf
  | succ k ih =>
    intro a0b i1b i2b i3b i4b i5b i6b z H locs ls hf hW hS hl
    rw [fRef_scan_L51] at hf
    refine lv_iload hx hb dRef_scan_51 (lv_at hl 6 rfl) ?_
    refine lv_iconst (v := 3) hx hb dRef_scan_53 (by decide) ?_
    refine lv_icmp_ge (tgt := 158) hx hb dRef_scan_54 (by decide) (fun c_10 => ?_) (fun c_10 => ?_)
    · replace hf := g_it c_10 hf
      refine lv_iinc (v := (i5b + 1)) (lv' := [(5, .int (i5b + 1)), (0, .ref a0b), (1, .int i1b), (2, .int i2b), (3, .int i3b), (4, .int i4b), (6, .int i6b)]) hx hb dRef_scan_158 hl (k := 5) rfl rfl (by decide) rfl (fun _ hl1 => ?_)
      clear hl
      have hl := hl1
      clear hl1
      refine lv_goto (tgt := 39) hx hb dRef_scan_161 (by decide) ?_
      exact hk39 a0b i1b i2b i3b i4b (i5b + 1) _ _ _ _ hf hW hS (lv_sub hl [1, 2, 3, 4, 5, 0] rfl)
    · replace hf := g_if c_10 hf
      refine lv_aload_n hx hb dRef_scan_57 rfl (lv_at hl 0 rfl) ?_
      replace hf := g_bd hf
      obtain ⟨r_11, hr_11, hf⟩ := hf
      refine g_getR hx hb hts in_Ref hown hK hW (ci := 9) (C := "SecretRowsModel") (T := T_Ref) (N := 36) rfl (k := 7) (by decide) (hts _ kw_527) (fun _ h9 => h9) hr_11 dRef_scan_58 ?_
      refine lv_iload hx hb dRef_scan_61 (lv_at hl 5 rfl) ?_
      replace hf := g_bd hf
      obtain ⟨a_12, ea_12, hf⟩ := hf
      subst ea_12
      refine W.eq (g2 := F0 m 63 _ [.int i5b, .ref a_12]) rfl ?_
      replace hf := g_bd hf
      obtain ⟨v_13, hv_13, hf⟩ := hf
      refine g_ald_i hx hb hK hW hv_13 dRef_scan_63 ?_
      refine lv_iload hx hb dRef_scan_64 (lv_at hl 4 rfl) ?_
      refine lv_icmp_ne (tgt := 158) hx hb dRef_scan_66 (by decide) (fun c_14 => ?_) (fun c_14 => ?_)
      · replace hf := g_if c_14 hf
        refine lv_iinc (v := (i5b + 1)) (lv' := [(5, .int (i5b + 1)), (0, .ref a0b), (1, .int i1b), (2, .int i2b), (3, .int i3b), (4, .int i4b), (6, .int i6b)]) hx hb dRef_scan_158 hl (k := 5) rfl rfl (by decide) rfl (fun _ hl1 => ?_)
        clear hl
        have hl := hl1
        clear hl1
        refine lv_goto (tgt := 39) hx hb dRef_scan_161 (by decide) ?_
        exact hk39 a0b i1b i2b i3b i4b (i5b + 1) _ _ _ _ hf hW hS (lv_sub hl [1, 2, 3, 4, 5, 0] rfl)
      · replace hf := g_it c_14 hf
        refine lv_aload_n hx hb dRef_scan_69 rfl (lv_at hl 0 rfl) ?_
        refine lv_iload hx hb dRef_scan_70 (lv_at hl 5 rfl) ?_
        replace hf := g_bd hf
        obtain ⟨_, hi_15, hf⟩ := hf
        replace hf := g_bps hf
        obtain ⟨v_17, z_16, hz_16, hf⟩ := hf
        refine g_goi (g_rV (As := [.int i5b]) (rest := []) ⟨hx, hb, hml, hown, hts⟩ (mRef_counts l D A n _ _ a0b i5b _ hz_16) (cwV 1 hts (gi_V kw_692 kw_694 ks_Ref_counts kw_6 kw_695) rfl rfl rfl ⟨rfl, hdRef_counts⟩ ⟨Nat.le_of_ble_eq_true rfl, Nat.le_of_ble_eq_true rfl⟩) hK hW hS hA (ci := 9) (T := T_Ref) (N := 36) rfl hi_15 rfl hl.1 rfl (Nat.le_of_ble_eq_true rfl) dRef_scan_72 ⟨Nat.le_of_ble_eq_true rfl, Nat.le_of_ble_eq_true rfl⟩) hS (fun H locs hW hS => ?_)
        refine lv_if_eq (tgt := 158) hx hb dRef_scan_75 (by decide) (fun c_18 => ?_) (fun c_18 => ?_)
        · replace hf := g_it c_18 hf
          refine lv_iinc (v := (i5b + 1)) (lv' := [(5, .int (i5b + 1)), (0, .ref a0b), (1, .int i1b), (2, .int i2b), (3, .int i3b), (4, .int i4b), (6, .int i6b)]) hx hb dRef_scan_158 hl (k := 5) rfl rfl (by decide) rfl (fun _ hl1 => ?_)
          clear hl
          have hl := hl1
          clear hl1
          refine lv_goto (tgt := 39) hx hb dRef_scan_161 (by decide) ?_
          exact hk39 a0b i1b i2b i3b i4b (i5b + 1) _ _ _ _ hf hW hS (lv_sub hl [1, 2, 3, 4, 5, 0] rfl)
        · replace hf := g_if c_18 hf
          refine lv_aload_n hx hb dRef_scan_78 rfl (lv_at hl 0 rfl) ?_
          refine lv_iload hx hb dRef_scan_79 (lv_at hl 5 rfl) ?_
          refine lv_iload hx hb dRef_scan_81 (lv_at hl 6 rfl) ?_
          replace hf := g_bd hf
          obtain ⟨_, hi_19, hf⟩ := hf
          replace hf := g_bps hf
          obtain ⟨v_21, z_20, hz_20, hf⟩ := hf
          refine g_goi (g_rV (As := [.int i5b, .int i6b]) (rest := []) ⟨hx, hb, hml, hown, hts⟩ (mRef_formLength l D A n _ _ a0b i5b i6b _ hz_20) (cwV 2 hts (gi_V kw_700 kw_702 ks_Ref_formLength kw_6 kw_703) rfl rfl rfl ⟨rfl, hdRef_formLength⟩ ⟨Nat.le_of_ble_eq_true rfl, Nat.le_of_ble_eq_true rfl⟩) hK hW hS hA (ci := 9) (T := T_Ref) (N := 36) rfl hi_19 rfl hl.1 rfl (Nat.le_of_ble_eq_true rfl) dRef_scan_83 ⟨Nat.le_of_ble_eq_true rfl, Nat.le_of_ble_eq_true rfl⟩) hS (fun H locs hW hS => ?_)
          refine lv_istore (lv' := [(7, .int v_21), (0, .ref a0b), (1, .int i1b), (2, .int i2b), (3, .int i3b), (4, .int i4b), (5, .int i5b), (6, .int i6b)]) hx hb dRef_scan_86 hl (by decide) rfl (fun _ hl1 => ?_)
          clear hl
          have hl := hl1
          clear hl1
          refine lv_iload hx hb dRef_scan_88 (lv_at hl 0 rfl) ?_
          refine lv_iload_n hx hb dRef_scan_90 rfl (lv_at hl 4 rfl) ?_
          refine lv_icmp_le (tgt := 152) hx hb dRef_scan_91 (by decide) (fun c_22 => ?_) (fun c_22 => ?_)
          · replace hf := g_it c_22 hf
            refine lv_iinc (v := (i6b + 1)) (lv' := [(6, .int (i6b + 1)), (7, .int v_21), (0, .ref a0b), (1, .int i1b), (2, .int i2b), (3, .int i3b), (4, .int i4b), (5, .int i5b)]) hx hb dRef_scan_152 hl (k := 7) rfl rfl (by decide) rfl (fun _ hl1 => ?_)
            clear hl
            have hl := hl1
            clear hl1
            refine lv_goto (tgt := 51) hx hb dRef_scan_155 (by decide) ?_
            exact ih a0b i1b i2b i3b i4b i5b (i6b + 1) _ _ _ _ hf hW hS (lv_sub hl [2, 3, 4, 5, 6, 7, 0] rfl)
          · replace hf := g_if c_22 hf
            refine lv_aload_n hx hb dRef_scan_94 rfl (lv_at hl 1 rfl) ?_
            refine lv_aload_n hx hb dRef_scan_95 rfl (lv_at hl 1 rfl) ?_
            replace hf := g_bd hf
            obtain ⟨r_23, hr_23, hf⟩ := hf
            refine g_getR hx hb hts in_Ref hown hK hW (ci := 9) (C := "SecretRowsModel") (T := T_Ref) (N := 36) rfl (k := 17) (by decide) (hts _ kw_537) (fun _ h9 => h9) hr_23 dRef_scan_96 ?_
            refine lv_iload_n hx hb dRef_scan_99 rfl (lv_at hl 3 rfl) ?_
            refine lv_iload_n hx hb dRef_scan_100 rfl (lv_at hl 2 rfl) ?_
            refine lv_iload hx hb dRef_scan_101 (lv_at hl 6 rfl) ?_
            refine lv_iload hx hb dRef_scan_103 (lv_at hl 7 rfl) ?_
            replace hf := g_bd hf
            obtain ⟨a_24, ea_24, hf⟩ := hf
            subst ea_24
            refine W.eq (g2 := F0 m 105 _ [.int i6b, .int i5b, .int i1b, .int i2b, .ref a_24, .ref a0b]) rfl ?_
            replace hf := g_bd hf
            obtain ⟨_, hi_25, hf⟩ := hf
            replace hf := g_bps hf
            obtain ⟨v_27, z_26, hz_26, hf⟩ := hf
            refine g_goi (g_rV (As := [.ref a_24, .int i2b, .int i1b, .int i5b, .int i6b]) (rest := []) ⟨hx, hb, hml, hown, hts⟩ (mRef_common l D A n _ _ a0b a_24 i2b i1b i5b i6b _ hz_26) (cwV 5 hts (gi_V kw_696 kw_698 ks_Ref_common kw_6 kw_699) rfl rfl rfl ⟨rfl, hdRef_common⟩ ⟨Nat.le_of_ble_eq_true rfl, Nat.le_of_ble_eq_true rfl⟩) hK hW hS hA (ci := 9) (T := T_Ref) (N := 36) rfl hi_25 rfl hl.1 rfl (Nat.le_of_ble_eq_true rfl) dRef_scan_105 ⟨Nat.le_of_ble_eq_true rfl, Nat.le_of_ble_eq_true rfl⟩) hS (fun H locs hW hS => ?_)
            refine lv_iload hx hb dRef_scan_108 (lv_at hl 0 rfl) ?_
            refine lv_icmp_ge (tgt := 116) hx hb dRef_scan_110 (by decide) (fun c_28 => ?_) (fun c_28 => ?_)
            · replace hf := g_it c_28 hf
              refine lv_iload hx hb dRef_scan_116 (lv_at hl 0 rfl) ?_
              refine lv_istore_n (lv' := [(3, .int v_21), (7, .int v_21), (0, .ref a0b), (1, .int i1b), (2, .int i2b), (4, .int i4b), (5, .int i5b), (6, .int i6b)]) hx hb dRef_scan_118 rfl hl (by decide) rfl (fun _ hl1 => ?_)
              clear hl
              have hl := hl1
              clear hl1
              refine lv_aload_n hx hb dRef_scan_119 rfl (lv_at hl 2 rfl) ?_
              refine lv_iload hx hb dRef_scan_120 (lv_at hl 5 rfl) ?_
              replace hf := g_bd hf
              obtain ⟨z_29, hz_29, hf⟩ := hf
              refine g_put hx hb hts in_Ref ty_Ref tyok_Ref nm_Ref hown hK hW hS (ci := 9) (C := "SecretRowsModel") (T := T_Ref) (N := 36) rfl (k := 33) (by decide) (hts _ kw_553) (fun _ h9 => h9) rfl (ty := .int) (by decide +kernel) rfl rfl hz_29 dRef_scan_122 (fun H locs hW hS => ?_)
              refine lv_aload_n hx hb dRef_scan_125 rfl (lv_at hl 2 rfl) ?_
              refine lv_iload hx hb dRef_scan_126 (lv_at hl 7 rfl) ?_
              replace hf := g_bd hf
              obtain ⟨z_30, hz_30, hf⟩ := hf
              refine g_put hx hb hts in_Ref ty_Ref tyok_Ref nm_Ref hown hK hW hS (ci := 9) (C := "SecretRowsModel") (T := T_Ref) (N := 36) rfl (k := 34) (by decide) (hts _ kw_554) (fun _ h9 => h9) rfl (ty := .int) (by decide +kernel) rfl rfl hz_30 dRef_scan_128 (fun H locs hW hS => ?_)
              refine lv_aload_n hx hb dRef_scan_131 rfl (lv_at hl 2 rfl) ?_
              refine lv_aload_n hx hb dRef_scan_132 rfl (lv_at hl 2 rfl) ?_
              replace hf := g_bd hf
              obtain ⟨r_31, hr_31, hf⟩ := hf
              refine g_getR hx hb hts in_Ref hown hK hW (ci := 9) (C := "SecretRowsModel") (T := T_Ref) (N := 36) rfl (k := 13) (by decide) (hts _ kw_533) (fun _ h9 => h9) hr_31 dRef_scan_133 ?_
              refine lv_iload hx hb dRef_scan_136 (lv_at hl 5 rfl) ?_
              replace hf := g_bd hf
              obtain ⟨a_32, ea_32, hf⟩ := hf
              subst ea_32
              refine W.eq (g2 := F0 m 138 _ [.int i4b, .ref a_32, .ref a0b]) rfl ?_
              replace hf := g_bd hf
              obtain ⟨v_33, hv_33, hf⟩ := hf
              refine g_ald_i hx hb hK hW hv_33 dRef_scan_138 ?_
              refine lv_iload hx hb dRef_scan_139 (lv_at hl 6 rfl) ?_
              refine lv_icmp_ne (tgt := 148) hx hb dRef_scan_141 (by decide) (fun c_34 => ?_) (fun c_34 => ?_)
              · replace hf := g_if c_34 hf
                refine lv_iconst (v := 1) hx hb dRef_scan_148 (by decide) ?_
                replace hf := g_bd hf
                obtain ⟨z_35, hz_35, hf⟩ := hf
                refine g_put hx hb hts in_Ref ty_Ref tyok_Ref nm_Ref hown hK hW hS (ci := 9) (C := "SecretRowsModel") (T := T_Ref) (N := 36) rfl (k := 35) (by decide) (hts _ kw_555) (fun _ h9 => h9) rfl (ty := .int) (by decide +kernel) rfl rfl hz_35 dRef_scan_149 (fun H locs hW hS => ?_)
                refine lv_iinc (v := (i6b + 1)) (lv' := [(6, .int (i6b + 1)), (3, .int v_21), (7, .int v_21), (0, .ref a0b), (1, .int i1b), (2, .int i2b), (4, .int i4b), (5, .int i5b)]) hx hb dRef_scan_152 hl (k := 7) rfl rfl (by decide) rfl (fun _ hl1 => ?_)
                clear hl
                have hl := hl1
                clear hl1
                refine lv_goto (tgt := 51) hx hb dRef_scan_155 (by decide) ?_
                exact ih a0b i1b i2b v_21 i4b i5b (i6b + 1) _ _ _ _ hf hW hS (lv_sub hl [3, 4, 5, 1, 6, 7, 0] rfl)
              · replace hf := g_it c_34 hf
                refine lv_iconst (v := 0) hx hb dRef_scan_144 (by decide) ?_
                refine lv_goto (tgt := 149) hx hb dRef_scan_145 (by decide) ?_
                replace hf := g_bd hf
                obtain ⟨z_36, hz_36, hf⟩ := hf
                refine g_put hx hb hts in_Ref ty_Ref tyok_Ref nm_Ref hown hK hW hS (ci := 9) (C := "SecretRowsModel") (T := T_Ref) (N := 36) rfl (k := 35) (by decide) (hts _ kw_555) (fun _ h9 => h9) rfl (ty := .int) (by decide +kernel) rfl rfl hz_36 dRef_scan_149 (fun H locs hW hS => ?_)
                refine lv_iinc (v := (i6b + 1)) (lv' := [(6, .int (i6b + 1)), (3, .int v_21), (7, .int v_21), (0, .ref a0b), (1, .int i1b), (2, .int i2b), (4, .int i4b), (5, .int i5b)]) hx hb dRef_scan_152 hl (k := 7) rfl rfl (by decide) rfl (fun _ hl1 => ?_)
                clear hl
                have hl := hl1
                clear hl1
                refine lv_goto (tgt := 51) hx hb dRef_scan_155 (by decide) ?_
                exact ih a0b i1b i2b v_21 i4b i5b (i6b + 1) _ _ _ _ hf hW hS (lv_sub hl [3, 4, 5, 1, 6, 7, 0] rfl)
            · replace hf := g_if c_28 hf
              refine lv_goto (tgt := 152) hx hb dRef_scan_113 (by decide) ?_
              refine lv_iinc (v := (i6b + 1)) (lv' := [(6, .int (i6b + 1)), (7, .int v_21), (0, .ref a0b), (1, .int i1b), (2, .int i2b), (3, .int i3b), (4, .int i4b), (5, .int i5b)]) hx hb dRef_scan_152 hl (k := 7) rfl rfl (by decide) rfl (fun _ hl1 => ?_)
              clear hl
              have hl := hl1
              clear hl1
              refine lv_goto (tgt := 51) hx hb dRef_scan_155 (by decide) ?_
              exact ih a0b i1b i2b i3b i4b i5b (i6b + 1) _ _ _ _ hf hW hS (lv_sub hl [2, 3, 4, 5, 6, 7, 0] rfl)
def fRef_scan_L39 (n : Nat) (k17 : Nat → Int32 → Int32 → gS → Option (Int32 × gS)) (k27 : Nat → Int32 → Int32 → Int32 → Int32 → gS → Option (Int32 × gS)) : Nat → Nat → Int32 → Int32 → Int32 → Int32 → Int32 → gS → Option (Int32 × gS)
  | 0, _, _, _, _, _, _, _ => none
  | k + 1, a0b, i1b, i2b, i3b, i4b, i5b, z =>
    (g_fI z a0b 9 3).bind fun v_8 =>
    if v_8 ≤ i5b then (
    k27 a0b i1b i2b i3b (i4b + 1) z)
    else (
    fRef_scan_L51 n k17 k27 (fun a0b i1b i2b i3b i4b i5b z => fRef_scan_L39 n k17 k27 k a0b i1b i2b i3b i4b i5b z) n a0b i1b i2b i3b i4b i5b 0 z)
set_option maxHeartbeats 4000000 in
set_option maxRecDepth 100000 in
theorem bRef_scan_39 {p : Program} {l : Launch} {e : Env} {s : State} {m : MethodId} {args : Array Value} {below : List Frame} {meth : Method} {c : Code} {D : va_G} {A : Nat → Prop} (C : g_C p s m meth c args cRef_scan 8 (some .int) "SecretRowsModel" gW D vwCl gNN gOO A) (n : Nat) {r : Int32} {z' : gS}
    {k17 : Nat → Int32 → Int32 → gS → Option (Int32 × gS)} (hk17 : ∀ (a0b : Nat) (i1b : Int32) (i2b : Int32) (z : gS) (H : Heap) (locs : List Loc) (ls : Array Slot), k17 a0b i1b i2b z = some (r, z') → g_W D vwCl A z s H → va_S A s.heap H locs → lv_has ls 8 [(0, .ref a0b), (1, .int i1b), (2, .int i2b)] → W p l e (headSpec wsRef_scan ({ frames := 3, cells := 0, slots := 0, locals := 69 })).room s m args below meth c H locs 0 0 (MQ below (g_Qi D vwCl A r z') args s 0 0 A) (F0 m 17 ls []))
    {k27 : Nat → Int32 → Int32 → Int32 → Int32 → gS → Option (Int32 × gS)} (hk27 : ∀ (a0b : Nat) (i1b : Int32) (i2b : Int32) (i3b : Int32) (i4b : Int32) (z : gS) (H : Heap) (locs : List Loc) (ls : Array Slot), k27 a0b i1b i2b i3b i4b z = some (r, z') → g_W D vwCl A z s H → va_S A s.heap H locs → lv_has ls 8 [(0, .ref a0b), (1, .int i1b), (2, .int i2b), (3, .int i3b), (4, .int i4b)] → W p l e (headSpec wsRef_scan ({ frames := 3, cells := 0, slots := 0, locals := 69 })).room s m args below meth c H locs 0 0 (MQ below (g_Qi D vwCl A r z') args s 0 0 A) (F0 m 27 ls [])) : ∀ k : Nat, ∀ (a0b : Nat) (i1b : Int32) (i2b : Int32) (i3b : Int32) (i4b : Int32) (i5b : Int32) (z : gS) (H : Heap) (locs : List Loc) (ls : Array Slot), fRef_scan_L39 n k17 k27 k a0b i1b i2b i3b i4b i5b z = some (r, z') → g_W D vwCl A z s H → va_S A s.heap H locs → lv_has ls 8 [(0, .ref a0b), (1, .int i1b), (2, .int i2b), (3, .int i3b), (4, .int i4b), (5, .int i5b)] → W p l e (headSpec wsRef_scan ({ frames := 3, cells := 0, slots := 0, locals := 69 })).room s m args below meth c H locs 0 0 (MQ below (g_Qi D vwCl A r z') args s 0 0 A) (F0 m 39 ls []) := by
  obtain ⟨hx, hb, hr, hml, hown, hts, hlocks, hK, hA⟩ := id C
  intro k
  induction k with
  | zero =>
    intro a0b i1b i2b i3b i4b i5b z H locs ls hf
    have hf : (none : Option (Int32 × gS)) = some _ := hf
    cases hf
  | succ k ih =>
    intro a0b i1b i2b i3b i4b i5b z H locs ls hf hW hS hl
    rw [fRef_scan_L39] at hf
    refine lv_iload hx hb dRef_scan_39 (lv_at hl 5 rfl) ?_
    refine lv_aload_n hx hb dRef_scan_41 rfl (lv_at hl 0 rfl) ?_
    replace hf := g_bd hf
    obtain ⟨v_8, hv_8, hf⟩ := hf
    refine g_getI hx hb hts in_Ref hown hK hW (ci := 9) (C := "SecretRowsModel") (T := T_Ref) (N := 36) rfl (k := 3) (by decide) (hts _ kw_523) (fun _ h9 => h9) hv_8 dRef_scan_42 ?_
    refine lv_icmp_ge (tgt := 164) hx hb dRef_scan_45 (by decide) (fun c_9 => ?_) (fun c_9 => ?_)
    · replace hf := g_it c_9 hf
      refine lv_iinc (v := (i4b + 1)) (lv' := [(4, .int (i4b + 1)), (0, .ref a0b), (1, .int i1b), (2, .int i2b), (3, .int i3b), (5, .int i5b)]) hx hb dRef_scan_164 hl (k := 4) rfl rfl (by decide) rfl (fun _ hl1 => ?_)
      clear hl
      have hl := hl1
      clear hl1
      refine lv_goto (tgt := 27) hx hb dRef_scan_167 (by decide) ?_
      exact hk27 a0b i1b i2b i3b (i4b + 1) _ _ _ _ hf hW hS (lv_sub hl [1, 2, 3, 4, 0] rfl)
    · replace hf := g_if c_9 hf
      refine lv_iconst (v := 0) hx hb dRef_scan_48 (by decide) ?_
      refine lv_istore (lv' := [(6, .int 0), (0, .ref a0b), (1, .int i1b), (2, .int i2b), (3, .int i3b), (4, .int i4b), (5, .int i5b)]) hx hb dRef_scan_49 hl (by decide) rfl (fun _ hl1 => ?_)
      clear hl
      have hl := hl1
      clear hl1
      exact bRef_scan_51 C n hk17 hk27 (fun a0b i1b i2b i3b i4b i5b => ih a0b i1b i2b i3b i4b i5b) n a0b i1b i2b i3b i4b i5b 0 _ _ _ _ hf hW hS (lv_sub hl [1, 2, 3, 4, 5, 6, 0] rfl)
def fRef_scan_L27 (n : Nat) (k17 : Nat → Int32 → Int32 → gS → Option (Int32 × gS)) : Nat → Nat → Int32 → Int32 → Int32 → Int32 → gS → Option (Int32 × gS)
  | 0, _, _, _, _, _, _ => none
  | k + 1, a0b, i1b, i2b, i3b, i4b, z =>
    (g_fI z a0b 9 2).bind fun v_5 =>
    if v_5 ≤ i4b then (
    if i3b ≤ 0 then (
    k17 a0b i1b (i2b + 1) z)
    else (
    some (i2b, z)))
    else (
    fRef_scan_L39 n k17 (fun a0b i1b i2b i3b i4b z => fRef_scan_L27 n k17 k a0b i1b i2b i3b i4b z) n a0b i1b i2b i3b i4b 0 z)
set_option maxHeartbeats 4000000 in
set_option maxRecDepth 100000 in
theorem bRef_scan_27 {p : Program} {l : Launch} {e : Env} {s : State} {m : MethodId} {args : Array Value} {below : List Frame} {meth : Method} {c : Code} {D : va_G} {A : Nat → Prop} (C : g_C p s m meth c args cRef_scan 8 (some .int) "SecretRowsModel" gW D vwCl gNN gOO A) (n : Nat) {r : Int32} {z' : gS}
    {k17 : Nat → Int32 → Int32 → gS → Option (Int32 × gS)} (hk17 : ∀ (a0b : Nat) (i1b : Int32) (i2b : Int32) (z : gS) (H : Heap) (locs : List Loc) (ls : Array Slot), k17 a0b i1b i2b z = some (r, z') → g_W D vwCl A z s H → va_S A s.heap H locs → lv_has ls 8 [(0, .ref a0b), (1, .int i1b), (2, .int i2b)] → W p l e (headSpec wsRef_scan ({ frames := 3, cells := 0, slots := 0, locals := 69 })).room s m args below meth c H locs 0 0 (MQ below (g_Qi D vwCl A r z') args s 0 0 A) (F0 m 17 ls [])) : ∀ k : Nat, ∀ (a0b : Nat) (i1b : Int32) (i2b : Int32) (i3b : Int32) (i4b : Int32) (z : gS) (H : Heap) (locs : List Loc) (ls : Array Slot), fRef_scan_L27 n k17 k a0b i1b i2b i3b i4b z = some (r, z') → g_W D vwCl A z s H → va_S A s.heap H locs → lv_has ls 8 [(0, .ref a0b), (1, .int i1b), (2, .int i2b), (3, .int i3b), (4, .int i4b)] → W p l e (headSpec wsRef_scan ({ frames := 3, cells := 0, slots := 0, locals := 69 })).room s m args below meth c H locs 0 0 (MQ below (g_Qi D vwCl A r z') args s 0 0 A) (F0 m 27 ls []) := by
  obtain ⟨hx, hb, hr, hml, hown, hts, hlocks, hK, hA⟩ := id C
  intro k
  induction k with
  | zero =>
    intro a0b i1b i2b i3b i4b z H locs ls hf
    have hf : (none : Option (Int32 × gS)) = some _ := hf
    cases hf
  | succ k ih =>
    intro a0b i1b i2b i3b i4b z H locs ls hf hW hS hl
    rw [fRef_scan_L27] at hf
    refine lv_iload hx hb dRef_scan_27 (lv_at hl 4 rfl) ?_
    refine lv_aload_n hx hb dRef_scan_29 rfl (lv_at hl 0 rfl) ?_
    replace hf := g_bd hf
    obtain ⟨v_5, hv_5, hf⟩ := hf
    refine g_getI hx hb hts in_Ref hown hK hW (ci := 9) (C := "SecretRowsModel") (T := T_Ref) (N := 36) rfl (k := 2) (by decide) (hts _ kw_522) (fun _ h9 => h9) hv_5 dRef_scan_30 ?_
    refine lv_icmp_ge (tgt := 170) hx hb dRef_scan_33 (by decide) (fun c_6 => ?_) (fun c_6 => ?_)
    · replace hf := g_it c_6 hf
      refine lv_iload_n hx hb dRef_scan_170 rfl (lv_at hl 3 rfl) ?_
      refine lv_if_le (tgt := 176) hx hb dRef_scan_171 (by decide) (fun c_7 => ?_) (fun c_7 => ?_)
      · replace hf := g_it c_7 hf
        refine lv_iinc (v := (i2b + 1)) (lv' := [(2, .int (i2b + 1)), (0, .ref a0b), (1, .int i1b), (3, .int i3b), (4, .int i4b)]) hx hb dRef_scan_176 hl (k := 2) rfl rfl (by decide) rfl (fun _ hl1 => ?_)
        clear hl
        have hl := hl1
        clear hl1
        refine lv_goto (tgt := 17) hx hb dRef_scan_179 (by decide) ?_
        exact hk17 a0b i1b (i2b + 1) _ _ _ _ hf hW hS (lv_sub hl [1, 2, 0] rfl)
      · replace hf := g_if c_7 hf
        refine lv_iload_n hx hb dRef_scan_174 rfl (lv_at hl 2 rfl) ?_
        cases hf
        exact g_reti hx hb hr hlocks hW hS (Nat.le_of_ble_eq_true rfl) (Nat.le_of_ble_eq_true rfl) dRef_scan_175
    · replace hf := g_if c_6 hf
      refine lv_iconst (v := 0) hx hb dRef_scan_36 (by decide) ?_
      refine lv_istore (lv' := [(5, .int 0), (0, .ref a0b), (1, .int i1b), (2, .int i2b), (3, .int i3b), (4, .int i4b)]) hx hb dRef_scan_37 hl (by decide) rfl (fun _ hl1 => ?_)
      clear hl
      have hl := hl1
      clear hl1
      exact bRef_scan_39 C n hk17 (fun a0b i1b i2b i3b i4b => ih a0b i1b i2b i3b i4b) n a0b i1b i2b i3b i4b 0 _ _ _ _ hf hW hS (lv_sub hl [1, 2, 3, 4, 5, 0] rfl)
def fRef_scan_L17 (n : Nat) : Nat → Nat → Int32 → Int32 → gS → Option (Int32 × gS)
  | 0, _, _, _, _ => none
  | k + 1, a0b, i1b, i2b, z =>
    if i1b ≤ i2b then (
    some ((-1), z))
    else (
    fRef_scan_L27 n (fun a0b i1b i2b z => fRef_scan_L17 n k a0b i1b i2b z) n a0b i1b i2b 0 0 z)
set_option maxHeartbeats 4000000 in
set_option maxRecDepth 100000 in
theorem bRef_scan_17 {p : Program} {l : Launch} {e : Env} {s : State} {m : MethodId} {args : Array Value} {below : List Frame} {meth : Method} {c : Code} {D : va_G} {A : Nat → Prop} (C : g_C p s m meth c args cRef_scan 8 (some .int) "SecretRowsModel" gW D vwCl gNN gOO A) (n : Nat) {r : Int32} {z' : gS} : ∀ k : Nat, ∀ (a0b : Nat) (i1b : Int32) (i2b : Int32) (z : gS) (H : Heap) (locs : List Loc) (ls : Array Slot), fRef_scan_L17 n k a0b i1b i2b z = some (r, z') → g_W D vwCl A z s H → va_S A s.heap H locs → lv_has ls 8 [(0, .ref a0b), (1, .int i1b), (2, .int i2b)] → W p l e (headSpec wsRef_scan ({ frames := 3, cells := 0, slots := 0, locals := 69 })).room s m args below meth c H locs 0 0 (MQ below (g_Qi D vwCl A r z') args s 0 0 A) (F0 m 17 ls []) := by
  obtain ⟨hx, hb, hr, hml, hown, hts, hlocks, hK, hA⟩ := id C
  intro k
  induction k with
  | zero =>
    intro a0b i1b i2b z H locs ls hf
    have hf : (none : Option (Int32 × gS)) = some _ := hf
    cases hf
  | succ k ih =>
    intro a0b i1b i2b z H locs ls hf hW hS hl
    rw [fRef_scan_L17] at hf
    refine lv_iload_n hx hb dRef_scan_17 rfl (lv_at hl 2 rfl) ?_
    refine lv_iload_n hx hb dRef_scan_18 rfl (lv_at hl 1 rfl) ?_
    refine lv_icmp_ge (tgt := 182) hx hb dRef_scan_19 (by decide) (fun c_4 => ?_) (fun c_4 => ?_)
    · replace hf := g_it c_4 hf
      refine lv_iconst (v := (-1)) hx hb dRef_scan_182 (by decide) ?_
      cases hf
      exact g_reti hx hb hr hlocks hW hS (Nat.le_of_ble_eq_true rfl) (Nat.le_of_ble_eq_true rfl) dRef_scan_183
    · replace hf := g_if c_4 hf
      refine lv_iconst (v := 0) hx hb dRef_scan_22 (by decide) ?_
      refine lv_istore_n (lv' := [(3, .int 0), (0, .ref a0b), (1, .int i1b), (2, .int i2b)]) hx hb dRef_scan_23 rfl hl (by decide) rfl (fun _ hl1 => ?_)
      clear hl
      have hl := hl1
      clear hl1
      refine lv_iconst (v := 0) hx hb dRef_scan_24 (by decide) ?_
      refine lv_istore (lv' := [(4, .int 0), (3, .int 0), (0, .ref a0b), (1, .int i1b), (2, .int i2b)]) hx hb dRef_scan_25 hl (by decide) rfl (fun _ hl1 => ?_)
      clear hl
      have hl := hl1
      clear hl1
      exact bRef_scan_27 C n (fun a0b i1b i2b => ih a0b i1b i2b) n a0b i1b i2b 0 0 _ _ _ _ hf hW hS (lv_sub hl [2, 3, 4, 1, 0] rfl)
def fRef_scan (n : Nat) (a0 : Nat) (z : gS) : Option (Int32 × gS) :=
    (g_pF z a0 9 0 (.int 0)).bind fun z_1 =>
    (g_fI z_1 a0 9 18).bind fun v_2 =>
    (g_pF z_1 a0 9 18 (.int 0)).bind fun z_3 =>
    fRef_scan_L17 n n a0 v_2 0 z_3
set_option maxHeartbeats 4000000 in
set_option maxRecDepth 100000 in
theorem mRef_scan (l : Launch) (D : va_G) (A : Nat → Prop) (n : Nat) (z z' : gS) (a0 : Nat) (r : Int32) (hf : fRef_scan n a0 z = some (r, z')) : Met l yRef_scan wsRef_scan ({ frames := 3, cells := 0, slots := 0, locals := 69 }) (g_P D vwCl gNN gOO A z [.ref a0]) (g_Qi D vwCl A r z') 0 0 A := by
  refine Met.ofW (cc := cRef_scan) (maxL := 8) (ret := (some .int)) (by decide) rfl ?_
  intro p e s m args below meth c s₁ B hml hv
  obtain ⟨rfl, hW, hK, hA0⟩ := hv
  have C : g_C p s m meth c _ cRef_scan 8 (some .int) "SecretRowsModel" gW D vwCl gNN gOO A := ⟨B.exec, B.bytes, B.returns, hml, findClass_of_methodNamed B.named, fun w hw => atoms_spec (ws := wsRef_scan) B.pre w (List.mem_cons_of_mem _ hw), B.notSynchronized, hK, fun q hq => hA0 q (by rw [← hW.1]; exact hq)⟩
  have hS : va_S A s.heap s.heap [] := va_S.rf
  have hl := lv_entry ([.ref a0]) (n := 8) (Nat.le_of_ble_eq_true rfl)
  rw [lg_entry_eq]
  generalize (lg_sl ([.ref a0]) ++ List.replicate (8 - (lg_sl ([.ref a0])).length) Slot.unset).toArray = ls at hl ⊢
  have hl : lv_has ls 8 [(0, .ref a0)] := hl
  obtain ⟨hx, hb, hr, hml, hown, hts, hlocks, hK, hA⟩ := id C
  unfold fRef_scan at hf
  refine lv_aload_n hx hb dRef_scan_0 rfl (lv_at hl 0 rfl) ?_
  refine lv_iconst (v := 0) hx hb dRef_scan_1 (by decide) ?_
  replace hf := g_bd hf
  obtain ⟨z_1, hz_1, hf⟩ := hf
  refine g_put hx hb hts in_Ref ty_Ref tyok_Ref nm_Ref hown hK hW hS (ci := 9) (C := "SecretRowsModel") (T := T_Ref) (N := 36) rfl (k := 0) (by decide) (hts _ kw_520) (fun _ h9 => h9) rfl (ty := .int) (by decide +kernel) rfl rfl hz_1 dRef_scan_2 (fun H locs hW hS => ?_)
  refine lv_aload_n hx hb dRef_scan_5 rfl (lv_at hl 0 rfl) ?_
  replace hf := g_bd hf
  obtain ⟨v_2, hv_2, hf⟩ := hf
  refine g_getI hx hb hts in_Ref hown hK hW (ci := 9) (C := "SecretRowsModel") (T := T_Ref) (N := 36) rfl (k := 18) (by decide) (hts _ kw_538) (fun _ h9 => h9) hv_2 dRef_scan_6 ?_
  refine lv_istore_n (lv' := [(1, .int v_2), (0, .ref a0)]) hx hb dRef_scan_9 rfl hl (by decide) rfl (fun _ hl1 => ?_)
  clear hl
  have hl := hl1
  clear hl1
  refine lv_aload_n hx hb dRef_scan_10 rfl (lv_at hl 1 rfl) ?_
  refine lv_iconst (v := 0) hx hb dRef_scan_11 (by decide) ?_
  replace hf := g_bd hf
  obtain ⟨z_3, hz_3, hf⟩ := hf
  refine g_put hx hb hts in_Ref ty_Ref tyok_Ref nm_Ref hown hK hW hS (ci := 9) (C := "SecretRowsModel") (T := T_Ref) (N := 36) rfl (k := 18) (by decide) (hts _ kw_538) (fun _ h9 => h9) rfl (ty := .int) (by decide +kernel) rfl rfl hz_3 dRef_scan_12 (fun H locs hW hS => ?_)
  refine lv_iconst (v := 0) hx hb dRef_scan_15 (by decide) ?_
  refine lv_istore_n (lv' := [(2, .int 0), (1, .int v_2), (0, .ref a0)]) hx hb dRef_scan_16 rfl hl (by decide) rfl (fun _ hl1 => ?_)
  clear hl
  have hl := hl1
  clear hl1
  exact bRef_scan_17 C n n a0 v_2 0 _ _ _ _ hf hW hS (lv_sub hl [2, 1, 0] rfl)
