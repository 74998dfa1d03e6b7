theorem dMain_told_0 : decode cMain_told 0 = .ok (.aload_n 0, 1) := by decide +kernel
theorem dMain_told_1 : decode cMain_told 1 = .ok (.iload_n 1, 1) := by decide +kernel
theorem dMain_told_2 : decode cMain_told 2 = .ok (.invokevirtual 101, 3) := by decide +kernel
theorem dMain_told_5 : decode cMain_told 5 = .ok (.astore_n 3, 1) := by decide +kernel
theorem dMain_told_6 : decode cMain_told 6 = .ok (.aload_n 3, 1) := by decide +kernel
theorem dMain_told_7 : decode cMain_told 7 = .ok (.ifnonnull 7, 3) := by decide +kernel
theorem dMain_told_10 : decode cMain_told 10 = .ok (.iconst (-1), 1) := by decide +kernel
theorem dMain_told_11 : decode cMain_told 11 = .ok (.goto 14, 3) := by decide +kernel
theorem dMain_told_14 : decode cMain_told 14 = .ok (.aload_n 3, 1) := by decide +kernel
theorem dMain_told_15 : decode cMain_told 15 = .ok (.getfield 132, 3) := by decide +kernel
theorem dMain_told_18 : decode cMain_told 18 = .ok (.getfield 148, 3) := by decide +kernel
theorem dMain_told_21 : decode cMain_told 21 = .ok (.iload_n 2, 1) := by decide +kernel
theorem dMain_told_22 : decode cMain_told 22 = .ok (.invokevirtual 121, 3) := by decide +kernel
theorem dMain_told_25 : decode cMain_told 25 = .ok (.ireturn, 1) := by decide +kernel
theorem dLog_heldCount_0 : decode cLog_heldCount 0 = .ok (.aload_n 0, 1) := by decide +kernel
theorem dLog_heldCount_1 : decode cLog_heldCount 1 = .ok (.getfield 14, 3) := by decide +kernel
theorem dLog_heldCount_4 : decode cLog_heldCount 4 = .ok (.invokevirtual 27, 3) := by decide +kernel
theorem dLog_heldCount_7 : decode cLog_heldCount 7 = .ok (.aload_n 0, 1) := by decide +kernel
theorem dLog_heldCount_8 : decode cLog_heldCount 8 = .ok (.getfield 31, 3) := by decide +kernel
theorem dLog_heldCount_11 : decode cLog_heldCount 11 = .ok (.isub, 1) := by decide +kernel
theorem dLog_heldCount_12 : decode cLog_heldCount 12 = .ok (.ireturn, 1) := by decide +kernel
theorem dMain_about_0 : decode cMain_about 0 = .ok (.aload_n 0, 1) := by decide +kernel
theorem dMain_about_1 : decode cMain_about 1 = .ok (.iload_n 1, 1) := by decide +kernel
theorem dMain_about_2 : decode cMain_about 2 = .ok (.invokevirtual 101, 3) := by decide +kernel
theorem dMain_about_5 : decode cMain_about 5 = .ok (.astore_n 3, 1) := by decide +kernel
theorem dMain_about_6 : decode cMain_about 6 = .ok (.aload_n 3, 1) := by decide +kernel
theorem dMain_about_7 : decode cMain_about 7 = .ok (.ifnonnull 5, 3) := by decide +kernel
theorem dMain_about_10 : decode cMain_about 10 = .ok (.iconst (-1), 1) := by decide +kernel
theorem dMain_about_11 : decode cMain_about 11 = .ok (.ireturn, 1) := by decide +kernel
theorem dMain_about_12 : decode cMain_about 12 = .ok (.iload_n 2, 1) := by decide +kernel
theorem dMain_about_13 : decode cMain_about 13 = .ok (.tableswitch 54 0 2 #[27, 38, 46], 27) := by decide +kernel
theorem dMain_about_40 : decode cMain_about 40 = .ok (.aload_n 3, 1) := by decide +kernel
theorem dMain_about_41 : decode cMain_about 41 = .ok (.getfield 132, 3) := by decide +kernel
theorem dMain_about_44 : decode cMain_about 44 = .ok (.getfield 148, 3) := by decide +kernel
theorem dMain_about_47 : decode cMain_about 47 = .ok (.invokevirtual 151, 3) := by decide +kernel
theorem dMain_about_50 : decode cMain_about 50 = .ok (.ireturn, 1) := by decide +kernel
theorem dMain_about_51 : decode cMain_about 51 = .ok (.aload_n 3, 1) := by decide +kernel
theorem dMain_about_52 : decode cMain_about 52 = .ok (.getfield 132, 3) := by decide +kernel
theorem dMain_about_55 : decode cMain_about 55 = .ok (.invokevirtual 155, 3) := by decide +kernel
theorem dMain_about_58 : decode cMain_about 58 = .ok (.ireturn, 1) := by decide +kernel
theorem dMain_about_59 : decode cMain_about 59 = .ok (.aload_n 3, 1) := by decide +kernel
theorem dMain_about_60 : decode cMain_about 60 = .ok (.getfield 132, 3) := by decide +kernel
theorem dMain_about_63 : decode cMain_about 63 = .ok (.getfield 158, 3) := by decide +kernel
theorem dMain_about_66 : decode cMain_about 66 = .ok (.ireturn, 1) := by decide +kernel
theorem dMain_about_67 : decode cMain_about 67 = .ok (.iconst (-1), 1) := by decide +kernel
theorem dMain_about_68 : decode cMain_about 68 = .ok (.ireturn, 1) := by decide +kernel
theorem dToken_init_0 : decode cToken_init 0 = .ok (.aload_n 0, 1) := by decide +kernel
theorem dToken_init_1 : decode cToken_init 1 = .ok (.invokespecial 1, 3) := by decide +kernel
theorem dToken_init_4 : decode cToken_init 4 = .ok (.aload_n 0, 1) := by decide +kernel
theorem dToken_init_5 : decode cToken_init 5 = .ok (.iload_n 1, 1) := by decide +kernel
theorem dToken_init_6 : decode cToken_init 6 = .ok (.putfield 7, 3) := by decide +kernel
theorem dToken_init_9 : decode cToken_init 9 = .ok (.aload_n 0, 1) := by decide +kernel
theorem dToken_init_10 : decode cToken_init 10 = .ok (.aload_n 2, 1) := by decide +kernel
theorem dToken_init_11 : decode cToken_init 11 = .ok (.putfield 13, 3) := by decide +kernel
theorem dToken_init_14 : decode cToken_init 14 = .ok (.aload_n 0, 1) := by decide +kernel
theorem dToken_init_15 : decode cToken_init 15 = .ok (.iload_n 3, 1) := by decide +kernel
theorem dToken_init_16 : decode cToken_init 16 = .ok (.putfield 17, 3) := by decide +kernel
theorem dToken_init_19 : decode cToken_init 19 = .ok (.return_, 1) := by decide +kernel
theorem dMain_token_0 : decode cMain_token 0 = .ok (.aload_n 0, 1) := by decide +kernel
theorem dMain_token_1 : decode cMain_token 1 = .ok (.iload_n 1, 1) := by decide +kernel
theorem dMain_token_2 : decode cMain_token 2 = .ok (.iload_n 2, 1) := by decide +kernel
theorem dMain_token_3 : decode cMain_token 3 = .ok (.invokevirtual 109, 3) := by decide +kernel
theorem dMain_token_6 : decode cMain_token 6 = .ok (.astore 4, 2) := by decide +kernel
theorem dMain_token_8 : decode cMain_token 8 = .ok (.aload 4, 2) := by decide +kernel
theorem dMain_token_10 : decode cMain_token 10 = .ok (.ifnull 26, 3) := by decide +kernel
theorem dMain_token_13 : decode cMain_token 13 = .ok (.iload_n 3, 1) := by decide +kernel
theorem dMain_token_14 : decode cMain_token 14 = .ok (.iconst 1, 1) := by decide +kernel
theorem dMain_token_15 : decode cMain_token 15 = .ok (.if_icmp .lt 21, 3) := by decide +kernel
theorem dMain_token_18 : decode cMain_token 18 = .ok (.iload_n 3, 1) := by decide +kernel
theorem dMain_token_19 : decode cMain_token 19 = .ok (.ldc 85, 2) := by decide +kernel
theorem dMain_token_21 : decode cMain_token 21 = .ok (.if_icmp .gt 15, 3) := by decide +kernel
theorem dMain_token_24 : decode cMain_token 24 = .ok (.aload_n 0, 1) := by decide +kernel
theorem dMain_token_25 : decode cMain_token 25 = .ok (.getfield 161, 3) := by decide +kernel
theorem dMain_token_28 : decode cMain_token 28 = .ok (.aload_n 0, 1) := by decide +kernel
theorem dMain_token_29 : decode cMain_token 29 = .ok (.getfield 23, 3) := by decide +kernel
theorem dMain_token_32 : decode cMain_token 32 = .ok (.arraylength, 1) := by decide +kernel
theorem dMain_token_33 : decode cMain_token 33 = .ok (.if_icmp .lt 5, 3) := by decide +kernel
theorem dMain_token_36 : decode cMain_token 36 = .ok (.iconst (-1), 1) := by decide +kernel
theorem dMain_token_37 : decode cMain_token 37 = .ok (.ireturn, 1) := by decide +kernel
theorem dMain_token_38 : decode cMain_token 38 = .ok (.aload_n 0, 1) := by decide +kernel
theorem dMain_token_39 : decode cMain_token 39 = .ok (.getfield 23, 3) := by decide +kernel
theorem dMain_token_42 : decode cMain_token 42 = .ok (.aload_n 0, 1) := by decide +kernel
theorem dMain_token_43 : decode cMain_token 43 = .ok (.getfield 161, 3) := by decide +kernel
theorem dMain_token_46 : decode cMain_token 46 = .ok (.new 21, 3) := by decide +kernel
theorem dMain_token_49 : decode cMain_token 49 = .ok (.dup, 1) := by decide +kernel
theorem dMain_token_50 : decode cMain_token 50 = .ok (.iload_n 2, 1) := by decide +kernel
theorem dMain_token_51 : decode cMain_token 51 = .ok (.aload 4, 2) := by decide +kernel
theorem dMain_token_53 : decode cMain_token 53 = .ok (.aload_n 0, 1) := by decide +kernel
theorem dMain_token_54 : decode cMain_token 54 = .ok (.getfield 86, 3) := by decide +kernel
theorem dMain_token_57 : decode cMain_token 57 = .ok (.iload_n 3, 1) := by decide +kernel
theorem dMain_token_58 : decode cMain_token 58 = .ok (.iadd, 1) := by decide +kernel
theorem dMain_token_59 : decode cMain_token 59 = .ok (.invokespecial 164, 3) := by decide +kernel
theorem dMain_token_62 : decode cMain_token 62 = .ok (.aastore, 1) := by decide +kernel
theorem dMain_token_63 : decode cMain_token 63 = .ok (.aload_n 0, 1) := by decide +kernel
theorem dMain_token_64 : decode cMain_token 64 = .ok (.dup, 1) := by decide +kernel
theorem dMain_token_65 : decode cMain_token 65 = .ok (.getfield 161, 3) := by decide +kernel
theorem dMain_token_68 : decode cMain_token 68 = .ok (.iconst 1, 1) := by decide +kernel
theorem dMain_token_69 : decode cMain_token 69 = .ok (.iadd, 1) := by decide +kernel
theorem dMain_token_70 : decode cMain_token 70 = .ok (.putfield 161, 3) := by decide +kernel
theorem dMain_token_73 : decode cMain_token 73 = .ok (.aload_n 0, 1) := by decide +kernel
theorem dMain_token_74 : decode cMain_token 74 = .ok (.getfield 161, 3) := by decide +kernel
theorem dMain_token_77 : decode cMain_token 77 = .ok (.iconst 1, 1) := by decide +kernel
theorem dMain_token_78 : decode cMain_token 78 = .ok (.isub, 1) := by decide +kernel
theorem dMain_token_79 : decode cMain_token 79 = .ok (.ireturn, 1) := by decide +kernel
theorem dSecret_stillHas_0 : decode cSecret_stillHas 0 = .ok (.aload_n 0, 1) := by decide +kernel
theorem dSecret_stillHas_1 : decode cSecret_stillHas 1 = .ok (.getfield 19, 3) := by decide +kernel
theorem dSecret_stillHas_4 : decode cSecret_stillHas 4 = .ok (.ifnull 21, 3) := by decide +kernel
theorem dSecret_stillHas_7 : decode cSecret_stillHas 7 = .ok (.aload_n 0, 1) := by decide +kernel
theorem dSecret_stillHas_8 : decode cSecret_stillHas 8 = .ok (.getfield 19, 3) := by decide +kernel
theorem dSecret_stillHas_11 : decode cSecret_stillHas 11 = .ok (.getfield 41, 3) := by decide +kernel
theorem dSecret_stillHas_14 : decode cSecret_stillHas 14 = .ok (.aload_n 1, 1) := by decide +kernel
theorem dSecret_stillHas_15 : decode cSecret_stillHas 15 = .ok (.getfield 41, 3) := by decide +kernel
theorem dSecret_stillHas_18 : decode cSecret_stillHas 18 = .ok (.if_icmp .ne 7, 3) := by decide +kernel
theorem dSecret_stillHas_21 : decode cSecret_stillHas 21 = .ok (.iconst 1, 1) := by decide +kernel
theorem dSecret_stillHas_22 : decode cSecret_stillHas 22 = .ok (.goto 4, 3) := by decide +kernel
theorem dSecret_stillHas_25 : decode cSecret_stillHas 25 = .ok (.iconst 0, 1) := by decide +kernel
theorem dSecret_stillHas_26 : decode cSecret_stillHas 26 = .ok (.ireturn, 1) := by decide +kernel
theorem dMain_good_0 : decode cMain_good 0 = .ok (.iload_n 1, 1) := by decide +kernel
theorem dMain_good_1 : decode cMain_good 1 = .ok (.ifCond .lt 20, 3) := by decide +kernel
theorem dMain_good_4 : decode cMain_good 4 = .ok (.iload_n 1, 1) := by decide +kernel
theorem dMain_good_5 : decode cMain_good 5 = .ok (.aload_n 0, 1) := by decide +kernel
theorem dMain_good_6 : decode cMain_good 6 = .ok (.getfield 161, 3) := by decide +kernel
theorem dMain_good_9 : decode cMain_good 9 = .ok (.if_icmp .ge 12, 3) := by decide +kernel
theorem dMain_good_12 : decode cMain_good 12 = .ok (.iload_n 1, 1) := by decide +kernel
theorem dMain_good_13 : decode cMain_good 13 = .ok (.aload_n 0, 1) := by decide +kernel
theorem dMain_good_14 : decode cMain_good 14 = .ok (.getfield 23, 3) := by decide +kernel
theorem dMain_good_17 : decode cMain_good 17 = .ok (.arraylength, 1) := by decide +kernel
theorem dMain_good_18 : decode cMain_good 18 = .ok (.if_icmp .lt 5, 3) := by decide +kernel
theorem dMain_good_21 : decode cMain_good 21 = .ok (.iconst 0, 1) := by decide +kernel
theorem dMain_good_22 : decode cMain_good 22 = .ok (.ireturn, 1) := by decide +kernel
theorem dMain_good_23 : decode cMain_good 23 = .ok (.aload_n 0, 1) := by decide +kernel
theorem dMain_good_24 : decode cMain_good 24 = .ok (.getfield 23, 3) := by decide +kernel
theorem dMain_good_27 : decode cMain_good 27 = .ok (.iload_n 1, 1) := by decide +kernel
theorem dMain_good_28 : decode cMain_good 28 = .ok (.aaload, 1) := by decide +kernel
theorem dMain_good_29 : decode cMain_good 29 = .ok (.astore_n 2, 1) := by decide +kernel
theorem dMain_good_30 : decode cMain_good 30 = .ok (.aload_n 2, 1) := by decide +kernel
theorem dMain_good_31 : decode cMain_good 31 = .ok (.ifnonnull 5, 3) := by decide +kernel
theorem dMain_good_34 : decode cMain_good 34 = .ok (.iconst 0, 1) := by decide +kernel
theorem dMain_good_35 : decode cMain_good 35 = .ok (.ireturn, 1) := by decide +kernel
theorem dMain_good_36 : decode cMain_good 36 = .ok (.aload_n 0, 1) := by decide +kernel
theorem dMain_good_37 : decode cMain_good 37 = .ok (.aload_n 2, 1) := by decide +kernel
theorem dMain_good_38 : decode cMain_good 38 = .ok (.getfield 167, 3) := by decide +kernel
theorem dMain_good_41 : decode cMain_good 41 = .ok (.invokevirtual 70, 3) := by decide +kernel
theorem dMain_good_44 : decode cMain_good 44 = .ok (.astore_n 3, 1) := by decide +kernel
theorem dMain_good_45 : decode cMain_good 45 = .ok (.aload_n 0, 1) := by decide +kernel
theorem dMain_good_46 : decode cMain_good 46 = .ok (.getfield 86, 3) := by decide +kernel
theorem dMain_good_49 : decode cMain_good 49 = .ok (.aload_n 2, 1) := by decide +kernel
theorem dMain_good_50 : decode cMain_good 50 = .ok (.getfield 170, 3) := by decide +kernel
theorem dMain_good_53 : decode cMain_good 53 = .ok (.if_icmp .ge 29, 3) := by decide +kernel
theorem dMain_good_56 : decode cMain_good 56 = .ok (.aload_n 3, 1) := by decide +kernel
theorem dMain_good_57 : decode cMain_good 57 = .ok (.ifnull 25, 3) := by decide +kernel
theorem dMain_good_60 : decode cMain_good 60 = .ok (.aload_n 3, 1) := by decide +kernel
theorem dMain_good_61 : decode cMain_good 61 = .ok (.getfield 81, 3) := by decide +kernel
theorem dMain_good_64 : decode cMain_good 64 = .ok (.ifCond .ne 18, 3) := by decide +kernel
theorem dMain_good_67 : decode cMain_good 67 = .ok (.aload_n 3, 1) := by decide +kernel
theorem dMain_good_68 : decode cMain_good 68 = .ok (.aload_n 2, 1) := by decide +kernel
theorem dMain_good_69 : decode cMain_good 69 = .ok (.getfield 172, 3) := by decide +kernel
theorem dMain_good_72 : decode cMain_good 72 = .ok (.invokevirtual 176, 3) := by decide +kernel
theorem dMain_good_75 : decode cMain_good 75 = .ok (.ifCond .eq 7, 3) := by decide +kernel
theorem dMain_good_78 : decode cMain_good 78 = .ok (.iconst 1, 1) := by decide +kernel
theorem dMain_good_79 : decode cMain_good 79 = .ok (.goto 4, 3) := by decide +kernel
theorem dMain_good_82 : decode cMain_good 82 = .ok (.iconst 0, 1) := by decide +kernel
theorem dMain_good_83 : decode cMain_good 83 = .ok (.ireturn, 1) := by decide +kernel
theorem dForms_ownerOf_0 : decode cForms_ownerOf 0 = .ok (.aload_n 0, 1) := by decide +kernel
theorem dForms_ownerOf_1 : decode cForms_ownerOf 1 = .ok (.iload_n 1, 1) := by decide +kernel
theorem dForms_ownerOf_2 : decode cForms_ownerOf 2 = .ok (.invokevirtual 47, 3) := by decide +kernel
theorem dForms_ownerOf_5 : decode cForms_ownerOf 5 = .ok (.ifCond .eq 12, 3) := by decide +kernel
theorem dForms_ownerOf_8 : decode cForms_ownerOf 8 = .ok (.aload_n 0, 1) := by decide +kernel
theorem dForms_ownerOf_9 : decode cForms_ownerOf 9 = .ok (.getfield 17, 3) := by decide +kernel
theorem dForms_ownerOf_12 : decode cForms_ownerOf 12 = .ok (.iload_n 1, 1) := by decide +kernel
theorem dForms_ownerOf_13 : decode cForms_ownerOf 13 = .ok (.iaload, 1) := by decide +kernel
theorem dForms_ownerOf_14 : decode cForms_ownerOf 14 = .ok (.goto 4, 3) := by decide +kernel
theorem dForms_ownerOf_17 : decode cForms_ownerOf 17 = .ok (.iconst (-1), 1) := by decide +kernel
theorem dForms_ownerOf_18 : decode cForms_ownerOf 18 = .ok (.ireturn, 1) := by decide +kernel
theorem dForms_kindOf_0 : decode cForms_kindOf 0 = .ok (.aload_n 0, 1) := by decide +kernel
theorem dForms_kindOf_1 : decode cForms_kindOf 1 = .ok (.iload_n 1, 1) := by decide +kernel
theorem dForms_kindOf_2 : decode cForms_kindOf 2 = .ok (.invokevirtual 47, 3) := by decide +kernel
theorem dForms_kindOf_5 : decode cForms_kindOf 5 = .ok (.ifCond .eq 12, 3) := by decide +kernel
theorem dForms_kindOf_8 : decode cForms_kindOf 8 = .ok (.aload_n 0, 1) := by decide +kernel
theorem dForms_kindOf_9 : decode cForms_kindOf 9 = .ok (.getfield 21, 3) := by decide +kernel
theorem dForms_kindOf_12 : decode cForms_kindOf 12 = .ok (.iload_n 1, 1) := by decide +kernel
theorem dForms_kindOf_13 : decode cForms_kindOf 13 = .ok (.iaload, 1) := by decide +kernel
theorem dForms_kindOf_14 : decode cForms_kindOf 14 = .ok (.goto 4, 3) := by decide +kernel
theorem dForms_kindOf_17 : decode cForms_kindOf 17 = .ok (.iconst (-1), 1) := by decide +kernel
theorem dForms_kindOf_18 : decode cForms_kindOf 18 = .ok (.ireturn, 1) := by decide +kernel
theorem dForms_oldOf_0 : decode cForms_oldOf 0 = .ok (.aload_n 0, 1) := by decide +kernel
theorem dForms_oldOf_1 : decode cForms_oldOf 1 = .ok (.iload_n 1, 1) := by decide +kernel
theorem dForms_oldOf_2 : decode cForms_oldOf 2 = .ok (.invokevirtual 47, 3) := by decide +kernel
theorem dForms_oldOf_5 : decode cForms_oldOf 5 = .ok (.ifCond .eq 12, 3) := by decide +kernel
theorem dForms_oldOf_8 : decode cForms_oldOf 8 = .ok (.aload_n 0, 1) := by decide +kernel
theorem dForms_oldOf_9 : decode cForms_oldOf 9 = .ok (.getfield 24, 3) := by decide +kernel
theorem dForms_oldOf_12 : decode cForms_oldOf 12 = .ok (.iload_n 1, 1) := by decide +kernel
theorem dForms_oldOf_13 : decode cForms_oldOf 13 = .ok (.iaload, 1) := by decide +kernel
theorem dForms_oldOf_14 : decode cForms_oldOf 14 = .ok (.goto 4, 3) := by decide +kernel
theorem dForms_oldOf_17 : decode cForms_oldOf 17 = .ok (.iconst (-1), 1) := by decide +kernel
theorem dForms_oldOf_18 : decode cForms_oldOf 18 = .ok (.ireturn, 1) := by decide +kernel
theorem dMain_rememberLeak_0 : decode cMain_rememberLeak 0 = .ok (.aload_n 0, 1) := by decide +kernel
theorem dMain_rememberLeak_1 : decode cMain_rememberLeak 1 = .ok (.aload_n 0, 1) := by decide +kernel
theorem dMain_rememberLeak_2 : decode cMain_rememberLeak 2 = .ok (.getfield 46, 3) := by decide +kernel
theorem dMain_rememberLeak_5 : decode cMain_rememberLeak 5 = .ok (.iload_n 1, 1) := by decide +kernel
theorem dMain_rememberLeak_6 : decode cMain_rememberLeak 6 = .ok (.invokevirtual 241, 3) := by decide +kernel
theorem dMain_rememberLeak_9 : decode cMain_rememberLeak 9 = .ok (.putfield 50, 3) := by decide +kernel
theorem dMain_rememberLeak_12 : decode cMain_rememberLeak 12 = .ok (.aload_n 0, 1) := by decide +kernel
theorem dMain_rememberLeak_13 : decode cMain_rememberLeak 13 = .ok (.aload_n 0, 1) := by decide +kernel
theorem dMain_rememberLeak_14 : decode cMain_rememberLeak 14 = .ok (.getfield 46, 3) := by decide +kernel
theorem dMain_rememberLeak_17 : decode cMain_rememberLeak 17 = .ok (.iload_n 1, 1) := by decide +kernel
theorem dMain_rememberLeak_18 : decode cMain_rememberLeak 18 = .ok (.invokevirtual 244, 3) := by decide +kernel
theorem dMain_rememberLeak_21 : decode cMain_rememberLeak 21 = .ok (.putfield 54, 3) := by decide +kernel
theorem dMain_rememberLeak_24 : decode cMain_rememberLeak 24 = .ok (.aload_n 0, 1) := by decide +kernel
theorem dMain_rememberLeak_25 : decode cMain_rememberLeak 25 = .ok (.aload_n 0, 1) := by decide +kernel
theorem dMain_rememberLeak_26 : decode cMain_rememberLeak 26 = .ok (.getfield 46, 3) := by decide +kernel
theorem dMain_rememberLeak_29 : decode cMain_rememberLeak 29 = .ok (.iload_n 1, 1) := by decide +kernel
theorem dMain_rememberLeak_30 : decode cMain_rememberLeak 30 = .ok (.invokevirtual 247, 3) := by decide +kernel
theorem dMain_rememberLeak_33 : decode cMain_rememberLeak 33 = .ok (.putfield 57, 3) := by decide +kernel
theorem dMain_rememberLeak_36 : decode cMain_rememberLeak 36 = .ok (.return_, 1) := by decide +kernel
theorem dMain_scan_0 : decode cMain_scan 0 = .ok (.aload_n 0, 1) := by decide +kernel
theorem dMain_scan_1 : decode cMain_scan 1 = .ok (.invokevirtual 141, 3) := by decide +kernel
theorem dMain_scan_4 : decode cMain_scan 4 = .ok (.iconst (-1), 1) := by decide +kernel
theorem dMain_scan_5 : decode cMain_scan 5 = .ok (.istore_n 1, 1) := by decide +kernel
theorem dMain_scan_6 : decode cMain_scan 6 = .ok (.iconst 0, 1) := by decide +kernel
theorem dMain_scan_7 : decode cMain_scan 7 = .ok (.istore_n 2, 1) := by decide +kernel
theorem dMain_scan_8 : decode cMain_scan 8 = .ok (.iload_n 2, 1) := by decide +kernel
theorem dMain_scan_9 : decode cMain_scan 9 = .ok (.aload_n 0, 1) := by decide +kernel
theorem dMain_scan_10 : decode cMain_scan 10 = .ok (.getfield 39, 3) := by decide +kernel
theorem dMain_scan_13 : decode cMain_scan 13 = .ok (.invokevirtual 151, 3) := by decide +kernel
theorem dMain_scan_16 : decode cMain_scan 16 = .ok (.if_icmp .ge 39, 3) := by decide +kernel
theorem dMain_scan_19 : decode cMain_scan 19 = .ok (.iload_n 1, 1) := by decide +kernel
theorem dMain_scan_20 : decode cMain_scan 20 = .ok (.iconst (-1), 1) := by decide +kernel
theorem dMain_scan_21 : decode cMain_scan 21 = .ok (.if_icmp .ne 34, 3) := by decide +kernel
theorem dMain_scan_24 : decode cMain_scan 24 = .ok (.aload_n 0, 1) := by decide +kernel
theorem dMain_scan_25 : decode cMain_scan 25 = .ok (.getfield 46, 3) := by decide +kernel
theorem dMain_scan_28 : decode cMain_scan 28 = .ok (.aload_n 0, 1) := by decide +kernel
theorem dMain_scan_29 : decode cMain_scan 29 = .ok (.getfield 39, 3) := by decide +kernel
theorem dMain_scan_32 : decode cMain_scan 32 = .ok (.iload_n 2, 1) := by decide +kernel
theorem dMain_scan_33 : decode cMain_scan 33 = .ok (.invokevirtual 180, 3) := by decide +kernel
theorem dMain_scan_36 : decode cMain_scan 36 = .ok (.istore_n 3, 1) := by decide +kernel
theorem dMain_scan_37 : decode cMain_scan 37 = .ok (.iload_n 3, 1) := by decide +kernel
theorem dMain_scan_38 : decode cMain_scan 38 = .ok (.iconst (-1), 1) := by decide +kernel
theorem dMain_scan_39 : decode cMain_scan 39 = .ok (.if_icmp .eq 10, 3) := by decide +kernel
theorem dMain_scan_42 : decode cMain_scan 42 = .ok (.iload_n 2, 1) := by decide +kernel
theorem dMain_scan_43 : decode cMain_scan 43 = .ok (.istore_n 1, 1) := by decide +kernel
theorem dMain_scan_44 : decode cMain_scan 44 = .ok (.aload_n 0, 1) := by decide +kernel
theorem dMain_scan_45 : decode cMain_scan 45 = .ok (.iload_n 3, 1) := by decide +kernel
theorem dMain_scan_46 : decode cMain_scan 46 = .ok (.invokevirtual 184, 3) := by decide +kernel
theorem dMain_scan_49 : decode cMain_scan 49 = .ok (.iinc 2 1, 3) := by decide +kernel
theorem dMain_scan_52 : decode cMain_scan 52 = .ok (.goto (-44), 3) := by decide +kernel
theorem dMain_scan_55 : decode cMain_scan 55 = .ok (.aload_n 0, 1) := by decide +kernel
theorem dMain_scan_56 : decode cMain_scan 56 = .ok (.getfield 39, 3) := by decide +kernel
theorem dMain_scan_59 : decode cMain_scan 59 = .ok (.invokevirtual 78, 3) := by decide +kernel
theorem dMain_scan_62 : decode cMain_scan 62 = .ok (.iload_n 1, 1) := by decide +kernel
theorem dMain_scan_63 : decode cMain_scan 63 = .ok (.ireturn, 1) := by decide +kernel
def fMain_told (n : Nat) (a0 : Nat) (i1 : Int32) (i2 : Int32) (z : gS) : Option (Int32 × gS) :=
    (g_is z a0 8).bind fun _ =>
    g_bp (fMain_findStep n a0 i1 z) fun r_3 z_2 =>
    g_n r_3 (
    some ((-1), z_2)) (fun a_4 =>
    (g_fR z_2 a_4 4 1).bind fun r_5 =>
    r_5.bind fun a_6 =>
    (g_fR z_2 a_6 3 1).bind fun r_7 =>
    r_7.bind fun a_8 =>
    (g_is z_2 a_8 0).bind fun _ =>
    g_bp (fText_at n a_8 i2 z_2) fun v_11 z_10 =>
    some (v_11, z_10))
set_option maxHeartbeats 4000000 in
set_option maxRecDepth 100000 in
theorem mMain_told (l : Launch) (D : va_G) (A : Nat → Prop) (n : Nat) (z z' : gS) (a0 : Nat) (i1 : Int32) (i2 : Int32) (r : Int32) (hf : fMain_told n a0 i1 i2 z = some (r, z')) : Met l yMain_told wsMain_told ({ frames := 1, cells := 0, slots := 0, locals := 21 }) (g_P D vwCl gNN gOO A z [.ref a0, .int i1, .int i2]) (g_Qi D vwCl A r z') 0 0 A := by
  refine Met.ofW (cc := cMain_told) (maxL := 4) (ret := (some .int)) (by decide) rfl ?_
  intro p e s m args below meth c s₁ B hml hv
  obtain ⟨rfl, hW, hK, hA0⟩ := hv
  have C : g_C p s m meth c _ cMain_told 4 (some .int) "SecretRows" gW D vwCl gNN gOO A := ⟨B.exec, B.bytes, B.returns, hml, findClass_of_methodNamed B.named, fun w hw => atoms_spec (ws := wsMain_told) B.pre w (List.mem_cons_of_mem _ hw), B.notSynchronized, hK, fun q hq => hA0 q (by rw [← hW.1]; exact hq)⟩
  have hS : va_S A s.heap s.heap [] := va_S.rf
  have hl := lv_entry ([.ref a0, .int i1, .int i2]) (n := 4) (Nat.le_of_ble_eq_true rfl)
  rw [lg_entry_eq]
  generalize (lg_sl ([.ref a0, .int i1, .int i2]) ++ List.replicate (4 - (lg_sl ([.ref a0, .int i1, .int i2])).length) Slot.unset).toArray = ls at hl ⊢
  have hl : lv_has ls 4 [(0, .ref a0), (1, .int i1), (2, .int i2)] := hl
  obtain ⟨hx, hb, hr, hml, hown, hts, hlocks, hK, hA⟩ := id C
  unfold fMain_told at hf
  refine lv_aload_n hx hb dMain_told_0 rfl (lv_at hl 0 rfl) ?_
  refine lv_iload_n hx hb dMain_told_1 rfl (lv_at hl 1 rfl) ?_
  replace hf := g_bd hf
  obtain ⟨_, hi_1, hf⟩ := hf
  replace hf := g_bps hf
  obtain ⟨r_3, z_2, hz_2, hf⟩ := hf
  refine g_goq (g_rV (As := [.int i1]) (rest := []) ⟨hx, hb, hml, hown, hts⟩ (mMain_findStep l D A n _ _ a0 i1 _ hz_2) (cwV 1 hts (gi_V kw_340 kw_342 ks_Main_findStep kw_1 kw_343) rfl rfl rfl ⟨rfl, hdMain_findStep⟩ ⟨Nat.le_of_ble_eq_true rfl, Nat.le_of_ble_eq_true rfl⟩) hK hW hS hA (ci := 8) (T := T_Main) (N := 14) rfl hi_1 rfl hl.1 rfl (Nat.le_of_ble_eq_true rfl) dMain_told_2 ⟨Nat.le_of_ble_eq_true rfl, Nat.le_of_ble_eq_true rfl⟩) hS (fun H locs hW hS => ?_)
  refine g_astore_n (lv' := [(3, va_rf r_3), (0, .ref a0), (1, .int i1), (2, .int i2)]) hx hb dMain_told_5 rfl hl (by decide) rfl (fun _ hl1 => ?_)
  clear hl
  have hl := hl1
  clear hl1
  refine g_aload_n hx hb dMain_told_6 rfl (lv_at hl 0 rfl) ?_
  cases r_3 with
  | none =>
    replace hf := g_n0 hf
    replace hl : lv_has _ 4 [(3, .null), (0, .ref a0), (1, .int i1), (2, .int i2)] := hl
    refine W.eq (g2 := F0 m 7 _ [.null]) rfl ?_
    refine lv_ifnonnullN hx hb dMain_told_7 ?_
    refine lv_iconst (v := (-1)) hx hb dMain_told_10 (by decide) ?_
    refine lv_goto (tgt := 25) hx hb dMain_told_11 (by decide) ?_
    cases hf
    exact g_reti hx hb hr hlocks hW hS (Nat.le_of_ble_eq_true rfl) (Nat.le_of_ble_eq_true rfl) dMain_told_25
  | some a_4 =>
    replace hf := g_n1 hf
    replace hl : lv_has _ 4 [(3, .ref a_4), (0, .ref a0), (1, .int i1), (2, .int i2)] := hl
    refine W.eq (g2 := F0 m 7 _ [.ref a_4]) rfl ?_
    refine lv_ifnonnull (tgt := 14) hx hb dMain_told_7 (by decide) ?_
    refine lv_aload_n hx hb dMain_told_14 rfl (lv_at hl 0 rfl) ?_
    replace hf := g_bd hf
    obtain ⟨r_5, hr_5, hf⟩ := hf
    refine g_getRN hx hb hts in_Step hown hK hW (ci := 4) (C := "SecretRows$Step") (T := T_Step) (N := 2) rfl (k := 1) (by decide) (host := "SecretRows") kw_318 (fun _ h9 => h9) hr_5 dMain_told_15 ?_
    replace hf := g_bd hf
    obtain ⟨a_6, ea_6, hf⟩ := hf
    subst ea_6
    refine W.eq (g2 := F0 m 18 _ [.ref a_6]) rfl ?_
    replace hf := g_bd hf
    obtain ⟨r_7, hr_7, hf⟩ := hf
    refine g_getRN hx hb hts in_Log hown hK hW (ci := 3) (C := "SecretRows$Log") (T := T_Log) (N := 5) rfl (k := 1) (by decide) (host := "SecretRows") kw_299 (fun _ h9 => h9) hr_7 dMain_told_18 ?_
    refine lv_iload_n hx hb dMain_told_21 rfl (lv_at hl 3 rfl) ?_
    replace hf := g_bd hf
    obtain ⟨a_8, ea_8, hf⟩ := hf
    subst ea_8
    refine W.eq (g2 := F0 m 22 _ [.int i2, .ref a_8]) rfl ?_
    replace hf := g_bd hf
    obtain ⟨_, hi_9, hf⟩ := hf
    replace hf := g_bps hf
    obtain ⟨v_11, z_10, hz_10, hf⟩ := hf
    refine g_goi (g_rV (As := [.int i2]) (rest := []) ⟨hx, hb, hml, hown, hts⟩ (mText_at l D A n _ _ a_8 i2 _ hz_10) (cwV 1 hts (gi_V kw_364 kw_192 kw_193 kw_3 kw_194) rfl rfl rfl ⟨rfl, hdText_at⟩ ⟨Nat.le_of_ble_eq_true rfl, Nat.le_of_ble_eq_true rfl⟩) hK hW hS hA (ci := 0) (T := T_Text) (N := 2) rfl hi_9 rfl hl.1 rfl (Nat.le_of_ble_eq_true rfl) dMain_told_22 ⟨Nat.le_of_ble_eq_true rfl, Nat.le_of_ble_eq_true rfl⟩) hS (fun H locs hW hS => ?_)
    cases hf
    exact g_reti hx hb hr hlocks hW hS (Nat.le_of_ble_eq_true rfl) (Nat.le_of_ble_eq_true rfl) dMain_told_25

def fLog_heldCount (n : Nat) (a0 : Nat) (z : gS) : Option (Int32 × gS) :=
    (g_fR z a0 3 0).bind fun r_1 =>
    r_1.bind fun a_2 =>
    (g_is z a_2 0).bind fun _ =>
    g_bp (fText_length n a_2 z) fun v_5 z_4 =>
    (g_fI z_4 a0 3 2).bind fun v_6 =>
    some ((v_5 - v_6), z_4)
set_option maxHeartbeats 4000000 in
set_option maxRecDepth 100000 in
theorem mLog_heldCount (l : Launch) (D : va_G) (A : Nat → Prop) (n : Nat) (z z' : gS) (a0 : Nat) (r : Int32) (hf : fLog_heldCount n a0 z = some (r, z')) : Met l yLog_heldCount wsLog_heldCount ({ frames := 1, cells := 0, slots := 0, locals := 20 }) (g_P D vwCl gNN gOO A z [.ref a0]) (g_Qi D vwCl A r z') 0 0 A := by
  refine Met.ofW (cc := cLog_heldCount) (maxL := 1) (ret := (some .int)) (by decide) rfl ?_
  intro p e s m args below meth c s₁ B hml hv
  obtain ⟨rfl, hW, hK, hA0⟩ := hv
  have C : g_C p s m meth c _ cLog_heldCount 1 (some .int) "SecretRows$Log" gW D vwCl gNN gOO A := ⟨B.exec, B.bytes, B.returns, hml, findClass_of_methodNamed B.named, fun w hw => atoms_spec (ws := wsLog_heldCount) B.pre w (List.mem_cons_of_mem _ hw), B.notSynchronized, hK, fun q hq => hA0 q (by rw [← hW.1]; exact hq)⟩
  have hS : va_S A s.heap s.heap [] := va_S.rf
  have hl := lv_entry ([.ref a0]) (n := 1) (Nat.le_of_ble_eq_true rfl)
  rw [lg_entry_eq]
  generalize (lg_sl ([.ref a0]) ++ List.replicate (1 - (lg_sl ([.ref a0])).length) Slot.unset).toArray = ls at hl ⊢
  have hl : lv_has ls 1 [(0, .ref a0)] := hl
  obtain ⟨hx, hb, hr, hml, hown, hts, hlocks, hK, hA⟩ := id C
  unfold fLog_heldCount at hf
  refine lv_aload_n hx hb dLog_heldCount_0 rfl (lv_at hl 0 rfl) ?_
  replace hf := g_bd hf
  obtain ⟨r_1, hr_1, hf⟩ := hf
  refine g_getR hx hb hts in_Log hown hK hW (ci := 3) (C := "SecretRows$Log") (T := T_Log) (N := 5) rfl (k := 0) (by decide) (hts _ kw_297) (fun _ h9 => h9) hr_1 dLog_heldCount_1 ?_
  replace hf := g_bd hf
  obtain ⟨a_2, ea_2, hf⟩ := hf
  subst ea_2
  refine W.eq (g2 := F0 m 4 _ [.ref a_2]) rfl ?_
  replace hf := g_bd hf
  obtain ⟨_, hi_3, hf⟩ := hf
  replace hf := g_bps hf
  obtain ⟨v_5, z_4, hz_4, hf⟩ := hf
  refine g_goi (g_rV (As := []) (rest := []) ⟨hx, hb, hml, hown, hts⟩ (mText_length l D A n _ _ a_2 _ hz_4) (cwV 0 hts (gi_V kw_385 kw_184 kw_185 kw_3 kw_186) rfl rfl rfl ⟨rfl, hdText_length⟩ ⟨Nat.le_of_ble_eq_true rfl, Nat.le_of_ble_eq_true rfl⟩) hK hW hS hA (ci := 0) (T := T_Text) (N := 2) rfl hi_3 rfl hl.1 rfl (Nat.le_of_ble_eq_true rfl) dLog_heldCount_4 ⟨Nat.le_of_ble_eq_true rfl, Nat.le_of_ble_eq_true rfl⟩) hS (fun H locs hW hS => ?_)
  refine lv_aload_n hx hb dLog_heldCount_7 rfl (lv_at hl 0 rfl) ?_
  replace hf := g_bd hf
  obtain ⟨v_6, hv_6, hf⟩ := hf
  refine g_getI hx hb hts in_Log hown hK hW (ci := 3) (C := "SecretRows$Log") (T := T_Log) (N := 5) rfl (k := 2) (by decide) (hts _ kw_300) (fun _ h9 => h9) hv_6 dLog_heldCount_8 ?_
  refine lv_isub hx hb dLog_heldCount_11 ?_
  cases hf
  exact g_reti hx hb hr hlocks hW hS (Nat.le_of_ble_eq_true rfl) (Nat.le_of_ble_eq_true rfl) dLog_heldCount_12

def fMain_about (n : Nat) (a0 : Nat) (i1 : Int32) (i2 : Int32) (z : gS) : Option (Int32 × gS) :=
    (g_is z a0 8).bind fun _ =>
    g_bp (fMain_findStep n a0 i1 z) fun r_3 z_2 =>
    g_n r_3 (
    some ((-1), z_2)) (fun a_4 =>
    if i2 = 0 then (
    (g_fR z_2 a_4 4 1).bind fun r_6 =>
    r_6.bind fun a_7 =>
    (g_fR z_2 a_7 3 1).bind fun r_8 =>
    r_8.bind fun a_9 =>
    (g_is z_2 a_9 0).bind fun _ =>
    g_bp (fText_length n a_9 z_2) fun v_12 z_11 =>
    some (v_12, z_11))
    else (
    if i2 = 1 then (
    (g_fR z_2 a_4 4 1).bind fun r_13 =>
    r_13.bind fun a_14 =>
    (g_is z_2 a_14 3).bind fun _ =>
    g_bp (fLog_heldCount n a_14 z_2) fun v_17 z_16 =>
    some (v_17, z_16))
    else (
    if i2 = 2 then (
    (g_fR z_2 a_4 4 1).bind fun r_18 =>
    r_18.bind fun a_19 =>
    (g_fI z_2 a_19 3 3).bind fun v_20 =>
    some (v_20, z_2))
    else (
    some ((-1), z_2)))))
set_option maxHeartbeats 4000000 in
set_option maxRecDepth 100000 in
theorem mMain_about (l : Launch) (D : va_G) (A : Nat → Prop) (n : Nat) (z z' : gS) (a0 : Nat) (i1 : Int32) (i2 : Int32) (r : Int32) (hf : fMain_about n a0 i1 i2 z = some (r, z')) : Met l yMain_about wsMain_about ({ frames := 2, cells := 0, slots := 0, locals := 40 }) (g_P D vwCl gNN gOO A z [.ref a0, .int i1, .int i2]) (g_Qi D vwCl A r z') 0 0 A := by
  refine Met.ofW (cc := cMain_about) (maxL := 4) (ret := (some .int)) (by decide) rfl ?_
  intro p e s m args below meth c s₁ B hml hv
  obtain ⟨rfl, hW, hK, hA0⟩ := hv
  have C : g_C p s m meth c _ cMain_about 4 (some .int) "SecretRows" gW D vwCl gNN gOO A := ⟨B.exec, B.bytes, B.returns, hml, findClass_of_methodNamed B.named, fun w hw => atoms_spec (ws := wsMain_about) B.pre w (List.mem_cons_of_mem _ hw), B.notSynchronized, hK, fun q hq => hA0 q (by rw [← hW.1]; exact hq)⟩
  have hS : va_S A s.heap s.heap [] := va_S.rf
  have hl := lv_entry ([.ref a0, .int i1, .int i2]) (n := 4) (Nat.le_of_ble_eq_true rfl)
  rw [lg_entry_eq]
  generalize (lg_sl ([.ref a0, .int i1, .int i2]) ++ List.replicate (4 - (lg_sl ([.ref a0, .int i1, .int i2])).length) Slot.unset).toArray = ls at hl ⊢
  have hl : lv_has ls 4 [(0, .ref a0), (1, .int i1), (2, .int i2)] := hl
  obtain ⟨hx, hb, hr, hml, hown, hts, hlocks, hK, hA⟩ := id C
  unfold fMain_about at hf
  refine lv_aload_n hx hb dMain_about_0 rfl (lv_at hl 0 rfl) ?_
  refine lv_iload_n hx hb dMain_about_1 rfl (lv_at hl 1 rfl) ?_
  replace hf := g_bd hf
  obtain ⟨_, hi_1, hf⟩ := hf
  replace hf := g_bps hf
  obtain ⟨r_3, z_2, hz_2, hf⟩ := hf
  refine g_goq (g_rV (As := [.int i1]) (rest := []) ⟨hx, hb, hml, hown, hts⟩ (mMain_findStep l D A n _ _ a0 i1 _ hz_2) (cwV 1 hts (gi_V kw_340 kw_342 ks_Main_findStep kw_1 kw_343) rfl rfl rfl ⟨rfl, hdMain_findStep⟩ ⟨Nat.le_of_ble_eq_true rfl, Nat.le_of_ble_eq_true rfl⟩) hK hW hS hA (ci := 8) (T := T_Main) (N := 14) rfl hi_1 rfl hl.1 rfl (Nat.le_of_ble_eq_true rfl) dMain_about_2 ⟨Nat.le_of_ble_eq_true rfl, Nat.le_of_ble_eq_true rfl⟩) hS (fun H locs hW hS => ?_)
  refine g_astore_n (lv' := [(3, va_rf r_3), (0, .ref a0), (1, .int i1), (2, .int i2)]) hx hb dMain_about_5 rfl hl (by decide) rfl (fun _ hl1 => ?_)
  clear hl
  have hl := hl1
  clear hl1
  refine g_aload_n hx hb dMain_about_6 rfl (lv_at hl 0 rfl) ?_
  cases r_3 with
  | none =>
    replace hf := g_n0 hf
    replace hl : lv_has _ 4 [(3, .null), (0, .ref a0), (1, .int i1), (2, .int i2)] := hl
    refine W.eq (g2 := F0 m 7 _ [.null]) rfl ?_
    refine lv_ifnonnullN hx hb dMain_about_7 ?_
    refine lv_iconst (v := (-1)) hx hb dMain_about_10 (by decide) ?_
    cases hf
    exact g_reti hx hb hr hlocks hW hS (Nat.le_of_ble_eq_true rfl) (Nat.le_of_ble_eq_true rfl) dMain_about_11
  | some a_4 =>
    replace hf := g_n1 hf
    replace hl : lv_has _ 4 [(3, .ref a_4), (0, .ref a0), (1, .int i1), (2, .int i2)] := hl
    refine W.eq (g2 := F0 m 7 _ [.ref a_4]) rfl ?_
    refine lv_ifnonnull (tgt := 12) hx hb dMain_about_7 (by decide) ?_
    refine lv_iload_n hx hb dMain_about_12 rfl (lv_at hl 3 rfl) ?_
    by_cases c_50 : i2 = 0
    · replace hf := g_it c_50 hf
      refine lv_tableIn (tgt := 40) hx hb dMain_about_13 (by rw [c_50]; decide) (by rw [c_50]; decide) (by rw [c_50]; rfl) (by decide) ?_
      refine lv_aload_n hx hb dMain_about_40 rfl (lv_at hl 0 rfl) ?_
      replace hf := g_bd hf
      obtain ⟨r_6, hr_6, hf⟩ := hf
      refine g_getRN hx hb hts in_Step hown hK hW (ci := 4) (C := "SecretRows$Step") (T := T_Step) (N := 2) rfl (k := 1) (by decide) (host := "SecretRows") kw_318 (fun _ h9 => h9) hr_6 dMain_about_41 ?_
      replace hf := g_bd hf
      obtain ⟨a_7, ea_7, hf⟩ := hf
      subst ea_7
      refine W.eq (g2 := F0 m 44 _ [.ref a_7]) rfl ?_
      replace hf := g_bd hf
      obtain ⟨r_8, hr_8, hf⟩ := hf
      refine g_getRN hx hb hts in_Log hown hK hW (ci := 3) (C := "SecretRows$Log") (T := T_Log) (N := 5) rfl (k := 1) (by decide) (host := "SecretRows") kw_299 (fun _ h9 => h9) hr_8 dMain_about_44 ?_
      replace hf := g_bd hf
      obtain ⟨a_9, ea_9, hf⟩ := hf
      subst ea_9
      refine W.eq (g2 := F0 m 47 _ [.ref a_9]) rfl ?_
      replace hf := g_bd hf
      obtain ⟨_, hi_10, hf⟩ := hf
      replace hf := g_bps hf
      obtain ⟨v_12, z_11, hz_11, hf⟩ := hf
      refine g_goi (g_rV (As := []) (rest := []) ⟨hx, hb, hml, hown, hts⟩ (mText_length l D A n _ _ a_9 _ hz_11) (cwV 0 hts (gi_V kw_183 kw_184 kw_185 kw_3 kw_186) rfl rfl rfl ⟨rfl, hdText_length⟩ ⟨Nat.le_of_ble_eq_true rfl, Nat.le_of_ble_eq_true rfl⟩) hK hW hS hA (ci := 0) (T := T_Text) (N := 2) rfl hi_10 rfl hl.1 rfl (Nat.le_of_ble_eq_true rfl) dMain_about_47 ⟨Nat.le_of_ble_eq_true rfl, Nat.le_of_ble_eq_true rfl⟩) hS (fun H locs hW hS => ?_)
      cases hf
      exact g_reti hx hb hr hlocks hW hS (Nat.le_of_ble_eq_true rfl) (Nat.le_of_ble_eq_true rfl) dMain_about_50
    · replace hf := g_if c_50 hf
      by_cases c_51 : i2 = 1
      · replace hf := g_it c_51 hf
        refine lv_tableIn (tgt := 51) hx hb dMain_about_13 (by rw [c_51]; decide) (by rw [c_51]; decide) (by rw [c_51]; rfl) (by decide) ?_
        refine lv_aload_n hx hb dMain_about_51 rfl (lv_at hl 0 rfl) ?_
        replace hf := g_bd hf
        obtain ⟨r_13, hr_13, hf⟩ := hf
        refine g_getRN hx hb hts in_Step hown hK hW (ci := 4) (C := "SecretRows$Step") (T := T_Step) (N := 2) rfl (k := 1) (by decide) (host := "SecretRows") kw_318 (fun _ h9 => h9) hr_13 dMain_about_52 ?_
        replace hf := g_bd hf
        obtain ⟨a_14, ea_14, hf⟩ := hf
        subst ea_14
        refine W.eq (g2 := F0 m 55 _ [.ref a_14]) rfl ?_
        replace hf := g_bd hf
        obtain ⟨_, hi_15, hf⟩ := hf
        replace hf := g_bps hf
        obtain ⟨v_17, z_16, hz_16, hf⟩ := hf
        refine g_goi (g_rV (As := []) (rest := []) ⟨hx, hb, hml, hown, hts⟩ (mLog_heldCount l D A n _ _ a_14 _ hz_16) (cwV 0 hts (gi_V kw_455 kw_456 kw_457 kw_10 kw_458) rfl rfl rfl ⟨rfl, hdLog_heldCount⟩ ⟨Nat.le_of_ble_eq_true rfl, Nat.le_of_ble_eq_true rfl⟩) hK hW hS hA (ci := 3) (T := T_Log) (N := 5) rfl hi_15 rfl hl.1 rfl (Nat.le_of_ble_eq_true rfl) dMain_about_55 ⟨Nat.le_of_ble_eq_true rfl, Nat.le_of_ble_eq_true rfl⟩) hS (fun H locs hW hS => ?_)
        cases hf
        exact g_reti hx hb hr hlocks hW hS (Nat.le_of_ble_eq_true rfl) (Nat.le_of_ble_eq_true rfl) dMain_about_58
      · replace hf := g_if c_51 hf
        by_cases c_52 : i2 = 2
        · replace hf := g_it c_52 hf
          refine lv_tableIn (tgt := 59) hx hb dMain_about_13 (by rw [c_52]; decide) (by rw [c_52]; decide) (by rw [c_52]; rfl) (by decide) ?_
          refine lv_aload_n hx hb dMain_about_59 rfl (lv_at hl 0 rfl) ?_
          replace hf := g_bd hf
          obtain ⟨r_18, hr_18, hf⟩ := hf
          refine g_getRN hx hb hts in_Step hown hK hW (ci := 4) (C := "SecretRows$Step") (T := T_Step) (N := 2) rfl (k := 1) (by decide) (host := "SecretRows") kw_318 (fun _ h9 => h9) hr_18 dMain_about_60 ?_
          replace hf := g_bd hf
          obtain ⟨a_19, ea_19, hf⟩ := hf
          subst ea_19
          refine W.eq (g2 := F0 m 63 _ [.ref a_19]) rfl ?_
          replace hf := g_bd hf
          obtain ⟨v_20, hv_20, hf⟩ := hf
          refine g_getIN hx hb hts in_Log hown hK hW (ci := 3) (C := "SecretRows$Log") (T := T_Log) (N := 5) rfl (k := 3) (by decide) (host := "SecretRows") kw_302 (fun _ h9 => h9) hv_20 dMain_about_63 ?_
          cases hf
          exact g_reti hx hb hr hlocks hW hS (Nat.le_of_ble_eq_true rfl) (Nat.le_of_ble_eq_true rfl) dMain_about_66
        · replace hf := g_if c_52 hf
          have c_5t0 := lv_neT c_50 (show (0 : Int32).toInt = 0 by decide)
          have c_5t1 := lv_neT c_51 (show (1 : Int32).toInt = 1 by decide)
          have c_5t2 := lv_neT c_52 (show (2 : Int32).toInt = 2 by decide)
          refine lv_tableOut (tgt := 67) hx hb dMain_about_13 (by omega) (by decide) ?_
          refine lv_iconst (v := (-1)) hx hb dMain_about_67 (by decide) ?_
          cases hf
          exact g_reti hx hb hr hlocks hW hS (Nat.le_of_ble_eq_true rfl) (Nat.le_of_ble_eq_true rfl) dMain_about_68

def fToken_init (n : Nat) (a0 : Nat) (i1 : Int32) (a2 : Nat) (i3 : Int32) (z : gS) : Option (gS) :=
    (g_pF z a0 5 0 (.int i1)).bind fun z_1 =>
    (g_pF z_1 a0 5 1 (.ref a2)).bind fun z_2 =>
    (g_pF z_2 a0 5 2 (.int i3)).bind fun z_3 =>
    some z_3
set_option maxHeartbeats 4000000 in
set_option maxRecDepth 100000 in
theorem mToken_init (l : Launch) (D : va_G) (A : Nat → Prop) (n : Nat) (z z' : gS) (a0 : Nat) (i1 : Int32) (a2 : Nat) (i3 : Int32) (hf : fToken_init n a0 i1 a2 i3 z = some z') : Met l yToken_init wsToken_init ({ frames := 1, cells := 0, slots := 0, locals := 12 }) (g_P D vwCl gNN gOO A z [.ref a0, .int i1, .ref a2, .int i3]) (g_Qv D vwCl A z') 0 0 A := by
  refine Met.ofW (cc := cToken_init) (maxL := 4) (ret := none) (by decide) rfl ?_
  intro p e s m args below meth c s₁ B hml hv
  obtain ⟨rfl, hW, hK, hA0⟩ := hv
  have hin : meth.name = "<init>" := (name_of_methodNamed B.named B.method).1
  have C : g_C p s m meth c _ cToken_init 4 none "SecretRows$Token" gW D vwCl gNN gOO A := ⟨B.exec, B.bytes, B.returns, hml, findClass_of_methodNamed B.named, fun w hw => atoms_spec (ws := wsToken_init) B.pre w (List.mem_cons_of_mem _ hw), B.notSynchronized, hK, fun q hq => hA0 q (by rw [← hW.1]; exact hq)⟩
  have hS : va_S A s.heap s.heap [] := va_S.rf
  have hl := lv_entry ([.ref a0, .int i1, .ref a2, .int i3]) (n := 4) (Nat.le_of_ble_eq_true rfl)
  rw [lg_entry_eq]
  generalize (lg_sl ([.ref a0, .int i1, .ref a2, .int i3]) ++ List.replicate (4 - (lg_sl ([.ref a0, .int i1, .ref a2, .int i3])).length) Slot.unset).toArray = ls at hl ⊢
  have hl : lv_has ls 4 [(0, .ref a0), (1, .int i1), (2, .ref a2), (3, .int i3)] := hl
  obtain ⟨hx, hb, hr, hml, hown, hts, hlocks, hK, hA⟩ := id C
  unfold fToken_init at hf
  refine lv_aload_n hx hb dToken_init_0 rfl (lv_at hl 0 rfl) ?_
  refine W.objInit hx hb hown (hts _ kw_467) (hts _ kw_18) (hts _ kw_19) rfl (by rw [hml]; exact hl.1) rfl dToken_init_1 (Nat.le_of_ble_eq_true rfl) (Nat.le_of_ble_eq_true rfl) ?_
  refine W.eq (g2 := F0 m 4 _ []) rfl ?_
  refine lv_aload_n hx hb dToken_init_4 rfl (lv_at hl 0 rfl) ?_
  refine lv_iload_n hx hb dToken_init_5 rfl (lv_at hl 1 rfl) ?_
  replace hf := g_bd hf
  obtain ⟨z_1, hz_1, hf⟩ := hf
  refine g_putF hx hb hts in_Token ty_Token tyok_Token nm_Token hown hK hW hS (ci := 5) (C := "SecretRows$Token") (T := T_Token) (N := 3) rfl (k := 0) (by decide) (hts _ kw_468) (fun _ h9 => h9) rfl hin rfl (ty := .int) (by decide +kernel) rfl rfl hz_1 dToken_init_6 (fun H locs hW hS => ?_)
  refine lv_aload_n hx hb dToken_init_9 rfl (lv_at hl 0 rfl) ?_
  refine lv_aload_n hx hb dToken_init_10 rfl (lv_at hl 2 rfl) ?_
  replace hf := g_bd hf
  obtain ⟨z_2, hz_2, hf⟩ := hf
  refine g_putF hx hb hts in_Token ty_Token tyok_Token nm_Token hown hK hW hS (ci := 5) (C := "SecretRows$Token") (T := T_Token) (N := 3) rfl (k := 1) (by decide) (hts _ kw_470) (fun _ h9 => h9) rfl hin rfl (ty := (.object "SecretRows$Value")) (by decide +kernel) rfl rfl hz_2 dToken_init_11 (fun H locs hW hS => ?_)
  refine lv_aload_n hx hb dToken_init_14 rfl (lv_at hl 0 rfl) ?_
  refine lv_iload_n hx hb dToken_init_15 rfl (lv_at hl 3 rfl) ?_
  replace hf := g_bd hf
  obtain ⟨z_3, hz_3, hf⟩ := hf
  refine g_putF hx hb hts in_Token ty_Token tyok_Token nm_Token hown hK hW hS (ci := 5) (C := "SecretRows$Token") (T := T_Token) (N := 3) rfl (k := 2) (by decide) (hts _ kw_472) (fun _ h9 => h9) rfl hin rfl (ty := .int) (by decide +kernel) rfl rfl hz_3 dToken_init_16 (fun H locs hW hS => ?_)
  cases hf
  exact g_retv hx hb hr hlocks hW hS (Nat.le_of_ble_eq_true rfl) (Nat.le_of_ble_eq_true rfl) dToken_init_19

def fMain_token (n : Nat) (a0 : Nat) (i1 : Int32) (i2 : Int32) (i3 : Int32) (z : gS) : Option (Int32 × gS) :=
    (g_is z a0 8).bind fun _ =>
    g_bp (fMain_keptValue n a0 i1 i2 z) fun r_3 z_2 =>
    g_n r_3 (
    some ((-1), z_2)) (fun a_4 =>
    if i3 < 1 then (
    some ((-1), z_2))
    else (
    if 100000 < i3 then (
    some ((-1), z_2))
    else (
    (g_fI z_2 a0 8 8).bind fun v_7 =>
    (g_fR z_2 a0 8 2).bind fun r_8 =>
    r_8.bind fun a_9 =>
    (g_len z_2 a_9).bind fun v_10 =>
    if v_7 < v_10 then (
    (g_fR z_2 a0 8 2).bind fun r_12 =>
    (g_fI z_2 a0 8 8).bind fun v_13 =>
    g_bp (g_nwO z_2 5 [.int 0, .null, .int 0]) fun a_14 z_15 =>
    (g_fI z_15 a0 8 10).bind fun v_16 =>
    (fToken_init n a_14 i2 a_4 (v_16 + i3) z_15).bind fun z_17 =>
    r_12.bind fun a_18 =>
    (g_is z_17 a_14 5).bind fun _ =>
    (g_stR z_17 (.object "SecretRows$Token") a_18 v_13 (some a_14)).bind fun z_19 =>
    (g_fI z_19 a0 8 8).bind fun v_20 =>
    (g_pF z_19 a0 8 8 (.int (v_20 + 1))).bind fun z_21 =>
    (g_fI z_21 a0 8 8).bind fun v_22 =>
    some ((v_22 - 1), z_21))
    else (
    some ((-1), z_2)))))
set_option maxHeartbeats 4000000 in
set_option maxRecDepth 100000 in
theorem mMain_token (l : Launch) (D : va_G) (A : Nat → Prop) (n : Nat) (z z' : gS) (a0 : Nat) (i1 : Int32) (i2 : Int32) (i3 : Int32) (r : Int32) (hf : fMain_token n a0 i1 i2 i3 z = some (r, z')) : Met l yMain_token wsMain_token ({ frames := 2, cells := 1, slots := 3, locals := 44 }) (g_P D vwCl gNN gOO A z [.ref a0, .int i1, .int i2, .int i3]) (g_Qi D vwCl A r z') 1 3 A := by
  refine Met.ofW (cc := cMain_token) (maxL := 5) (ret := (some .int)) (by decide) rfl ?_
  intro p e s m args below meth c s₁ B hml hv
  obtain ⟨rfl, hW, hK, hA0⟩ := hv
  have C : g_C p s m meth c _ cMain_token 5 (some .int) "SecretRows" gW D vwCl gNN gOO A := ⟨B.exec, B.bytes, B.returns, hml, findClass_of_methodNamed B.named, fun w hw => atoms_spec (ws := wsMain_token) B.pre w (List.mem_cons_of_mem _ hw), B.notSynchronized, hK, fun q hq => hA0 q (by rw [← hW.1]; exact hq)⟩
  have hS : va_S A s.heap s.heap [] := va_S.rf
  have hl := lv_entry ([.ref a0, .int i1, .int i2, .int i3]) (n := 5) (Nat.le_of_ble_eq_true rfl)
  rw [lg_entry_eq]
  generalize (lg_sl ([.ref a0, .int i1, .int i2, .int i3]) ++ List.replicate (5 - (lg_sl ([.ref a0, .int i1, .int i2, .int i3])).length) Slot.unset).toArray = ls at hl ⊢
  have hl : lv_has ls 5 [(0, .ref a0), (1, .int i1), (2, .int i2), (3, .int i3)] := hl
  obtain ⟨hx, hb, hr, hml, hown, hts, hlocks, hK, hA⟩ := id C
  unfold fMain_token at hf
  refine lv_aload_n hx hb dMain_token_0 rfl (lv_at hl 0 rfl) ?_
  refine lv_iload_n hx hb dMain_token_1 rfl (lv_at hl 1 rfl) ?_
  refine lv_iload_n hx hb dMain_token_2 rfl (lv_at hl 2 rfl) ?_
  replace hf := g_bd hf
  obtain ⟨_, hi_1, hf⟩ := hf
  replace hf := g_bps hf
  obtain ⟨r_3, z_2, hz_2, hf⟩ := hf
  refine g_goq (g_rV (As := [.int i1, .int i2]) (rest := []) ⟨hx, hb, hml, hown, hts⟩ (mMain_keptValue l D A n _ _ a0 i1 i2 _ hz_2) (cwV 2 hts (gi_V kw_352 kw_354 ks_Main_keptValue kw_1 kw_355) rfl rfl rfl ⟨rfl, hdMain_keptValue⟩ ⟨Nat.le_of_ble_eq_true rfl, Nat.le_of_ble_eq_true rfl⟩) hK hW hS hA (ci := 8) (T := T_Main) (N := 14) rfl hi_1 rfl hl.1 rfl (Nat.le_of_ble_eq_true rfl) dMain_token_3 ⟨Nat.le_of_ble_eq_true rfl, Nat.le_of_ble_eq_true rfl⟩) hS (fun H locs hW hS => ?_)
  refine g_astore (lv' := [(4, va_rf r_3), (0, .ref a0), (1, .int i1), (2, .int i2), (3, .int i3)]) hx hb dMain_token_6 hl (by decide) rfl (fun _ hl1 => ?_)
  clear hl
  have hl := hl1
  clear hl1
  refine g_aload hx hb dMain_token_8 (lv_at hl 0 rfl) ?_
  cases r_3 with
  | none =>
    replace hf := g_n0 hf
    replace hl : lv_has _ 5 [(4, .null), (0, .ref a0), (1, .int i1), (2, .int i2), (3, .int i3)] := hl
    refine W.eq (g2 := F0 m 10 _ [.null]) rfl ?_
    refine lv_ifnullN (tgt := 36) hx hb dMain_token_10 (by decide) ?_
    refine lv_iconst (v := (-1)) hx hb dMain_token_36 (by decide) ?_
    cases hf
    exact g_reti hx hb hr hlocks hW hS (Nat.le_of_ble_eq_true rfl) (Nat.le_of_ble_eq_true rfl) dMain_token_37
  | some a_4 =>
    replace hf := g_n1 hf
    replace hl : lv_has _ 5 [(4, .ref a_4), (0, .ref a0), (1, .int i1), (2, .int i2), (3, .int i3)] := hl
    refine W.eq (g2 := F0 m 10 _ [.ref a_4]) rfl ?_
    refine lv_ifnull hx hb dMain_token_10 ?_
    refine lv_iload_n hx hb dMain_token_13 rfl (lv_at hl 4 rfl) ?_
    refine lv_iconst (v := 1) hx hb dMain_token_14 (by decide) ?_
    refine lv_icmp_lt (tgt := 36) hx hb dMain_token_15 (by decide) (fun c_5 => ?_) (fun c_5 => ?_)
    · replace hf := g_it c_5 hf
      refine lv_iconst (v := (-1)) hx hb dMain_token_36 (by decide) ?_
      cases hf
      exact g_reti hx hb hr hlocks hW hS (Nat.le_of_ble_eq_true rfl) (Nat.le_of_ble_eq_true rfl) dMain_token_37
    · replace hf := g_if c_5 hf
      refine lv_iload_n hx hb dMain_token_18 rfl (lv_at hl 4 rfl) ?_
      refine lv_ldc (v := 100000) hx hb hown (hts _ kw_178) dMain_token_19 ?_
      refine lv_icmp_gt (tgt := 36) hx hb dMain_token_21 (by decide) (fun c_6 => ?_) (fun c_6 => ?_)
      · replace hf := g_it c_6 hf
        refine lv_iconst (v := (-1)) hx hb dMain_token_36 (by decide) ?_
        cases hf
        exact g_reti hx hb hr hlocks hW hS (Nat.le_of_ble_eq_true rfl) (Nat.le_of_ble_eq_true rfl) dMain_token_37
      · replace hf := g_if c_6 hf
        refine lv_aload_n hx hb dMain_token_24 rfl (lv_at hl 1 rfl) ?_
        replace hf := g_bd hf
        obtain ⟨v_7, hv_7, hf⟩ := hf
        refine g_getI hx hb hts in_Main hown hK hW (ci := 8) (C := "SecretRows") (T := T_Main) (N := 14) rfl (k := 8) (by decide) (hts _ kw_89) (fun _ h9 => h9) hv_7 dMain_token_25 ?_
        refine lv_aload_n hx hb dMain_token_28 rfl (lv_at hl 1 rfl) ?_
        replace hf := g_bd hf
        obtain ⟨r_8, hr_8, hf⟩ := hf
        refine g_getR hx hb hts in_Main hown hK hW (ci := 8) (C := "SecretRows") (T := T_Main) (N := 14) rfl (k := 2) (by decide) (hts _ kw_83) (fun _ h9 => h9) hr_8 dMain_token_29 ?_
        replace hf := g_bd hf
        obtain ⟨a_9, ea_9, hf⟩ := hf
        subst ea_9
        refine W.eq (g2 := F0 m 32 _ [.ref a_9, .int v_7]) rfl ?_
        replace hf := g_bd hf
        obtain ⟨v_10, hv_10, hf⟩ := hf
        refine g_alen hx hb hK hW hv_10 dMain_token_32 ?_
        refine lv_icmp_lt (tgt := 38) hx hb dMain_token_33 (by decide) (fun c_11 => ?_) (fun c_11 => ?_)
        · replace hf := g_it c_11 hf
          refine lv_aload_n hx hb dMain_token_38 rfl (lv_at hl 1 rfl) ?_
          replace hf := g_bd hf
          obtain ⟨r_12, hr_12, hf⟩ := hf
          refine g_getR hx hb hts in_Main hown hK hW (ci := 8) (C := "SecretRows") (T := T_Main) (N := 14) rfl (k := 2) (by decide) (hts _ kw_83) (fun _ h9 => h9) hr_12 dMain_token_39 ?_
          refine lv_aload_n hx hb dMain_token_42 rfl (lv_at hl 1 rfl) ?_
          replace hf := g_bd hf
          obtain ⟨v_13, hv_13, hf⟩ := hf
          refine g_getI hx hb hts in_Main hown hK hW (ci := 8) (C := "SecretRows") (T := T_Main) (N := 14) rfl (k := 8) (by decide) (hts _ kw_89) (fun _ h9 => h9) hv_13 dMain_token_43 ?_
          replace hf := g_bps hf
          obtain ⟨a_14, z_15, hz_15, hf⟩ := hf
          refine g_newO hx hb hts in_Token ty_Token tyok_Token hown (hts _ kw_24) (hts _ kw_463) (hts _ kw_11) hK hW hS hA (ci := 5) (C := "SecretRows$Token") (T := T_Token) (N := 3) rfl (fun j hj => by rcases (show j = 0 ∨ j = 1 ∨ j = 2 by omega) with rfl | rfl | rfl <;> rfl) (Nat.le_of_ble_eq_true rfl) (Nat.le_of_ble_eq_true rfl) hz_15 dMain_token_46 (fun H hW hS => ?_)
          refine W.cs (cells' := 1) (slots' := 3) rfl rfl ?_
          refine lv_dup hx hb dMain_token_49 rfl ?_
          refine lv_iload_n hx hb dMain_token_50 rfl (lv_at hl 3 rfl) ?_
          refine lv_aload hx hb dMain_token_51 (lv_at hl 0 rfl) ?_
          refine lv_aload_n hx hb dMain_token_53 rfl (lv_at hl 1 rfl) ?_
          replace hf := g_bd hf
          obtain ⟨v_16, hv_16, hf⟩ := hf
          refine g_getI hx hb hts in_Main hown hK hW (ci := 8) (C := "SecretRows") (T := T_Main) (N := 14) rfl (k := 10) (by decide) (hts _ kw_91) (fun _ h9 => h9) hv_16 dMain_token_54 ?_
          refine lv_iload_n hx hb dMain_token_57 rfl (lv_at hl 4 rfl) ?_
          refine lv_iadd hx hb dMain_token_58 ?_
          replace hf := g_bd hf
          obtain ⟨z_17, hz_17, hf⟩ := hf
          refine g_gov (g_rI (As := [.int i2, .ref a_4, .int (v_16 + i3)]) (rest := [.ref a_14, .int v_13, va_rf r_12]) ⟨hx, hb, hml, hown, hts⟩ (mToken_init l D A n _ _ a_14 i2 a_4 (v_16 + i3) hz_17) (cwI 3 hts (gi_I kw_466) rfl rfl rfl (hts _ kw_11) (hts _ kw_464) (hts _ kw_465) rfl hdToken_init ⟨Nat.le_of_ble_eq_true rfl, Nat.le_of_ble_eq_true rfl⟩) hK hW hS hA rfl hl.1 rfl (by simp only [List.map_cons, List.map_nil, g_cat]; exact Nat.le_of_ble_eq_true rfl) dMain_token_59 ⟨Nat.le_of_ble_eq_true rfl, Nat.le_of_ble_eq_true rfl⟩) hS (fun H locs hW hS => ?_)
          replace hf := g_bd hf
          obtain ⟨a_18, ea_18, hf⟩ := hf
          subst ea_18
          refine W.eq (g2 := F0 m 62 _ [.ref a_14, .int v_13, .ref a_18]) rfl ?_
          replace hf := g_bd hf
          obtain ⟨_, hz_19i, hf⟩ := hf
          replace hf := g_bd hf
          obtain ⟨z_19, hz_19, hf⟩ := hf
          refine g_ast_r (r := ("SecretRows$Token", T_Token, 3)) (ci := 5) hx hb hK hW hS rfl hz_19i hz_19 dMain_token_62 (fun H locs hW hS => ?_)
          refine lv_aload_n hx hb dMain_token_63 rfl (lv_at hl 1 rfl) ?_
          refine lv_dup hx hb dMain_token_64 rfl ?_
          replace hf := g_bd hf
          obtain ⟨v_20, hv_20, hf⟩ := hf
          refine g_getI hx hb hts in_Main hown hK hW (ci := 8) (C := "SecretRows") (T := T_Main) (N := 14) rfl (k := 8) (by decide) (hts _ kw_89) (fun _ h9 => h9) hv_20 dMain_token_65 ?_
          refine lv_iconst (v := 1) hx hb dMain_token_68 (by decide) ?_
          refine lv_iadd hx hb dMain_token_69 ?_
          replace hf := g_bd hf
          obtain ⟨z_21, hz_21, hf⟩ := hf
          refine g_put hx hb hts in_Main ty_Main tyok_Main nm_Main hown hK hW hS (ci := 8) (C := "SecretRows") (T := T_Main) (N := 14) rfl (k := 8) (by decide) (hts _ kw_89) (fun _ h9 => h9) rfl (ty := .int) (by decide +kernel) rfl rfl hz_21 dMain_token_70 (fun H locs hW hS => ?_)
          refine lv_aload_n hx hb dMain_token_73 rfl (lv_at hl 1 rfl) ?_
          replace hf := g_bd hf
          obtain ⟨v_22, hv_22, hf⟩ := hf
          refine g_getI hx hb hts in_Main hown hK hW (ci := 8) (C := "SecretRows") (T := T_Main) (N := 14) rfl (k := 8) (by decide) (hts _ kw_89) (fun _ h9 => h9) hv_22 dMain_token_74 ?_
          refine lv_iconst (v := 1) hx hb dMain_token_77 (by decide) ?_
          refine lv_isub hx hb dMain_token_78 ?_
          cases hf
          exact g_reti hx hb hr hlocks hW hS (Nat.le_of_ble_eq_true rfl) (Nat.le_of_ble_eq_true rfl) dMain_token_79
        · replace hf := g_if c_11 hf
          refine lv_iconst (v := (-1)) hx hb dMain_token_36 (by decide) ?_
          cases hf
          exact g_reti hx hb hr hlocks hW hS (Nat.le_of_ble_eq_true rfl) (Nat.le_of_ble_eq_true rfl) dMain_token_37

def fSecret_stillHas (n : Nat) (a0 : Nat) (a1 : Nat) (z : gS) : Option (Int32 × gS) :=
    (g_fR z a0 2 3).bind fun r_1 =>
    g_n r_1 (
    some (0, z)) (fun a_2 =>
    (g_fR z a0 2 3).bind fun r_3 =>
    r_3.bind fun a_4 =>
    (g_fI z a_4 1 0).bind fun v_5 =>
    (g_fI z a1 1 0).bind fun v_6 =>
    if v_5 = v_6 then (
    some (1, z))
    else (
    some (0, z)))
set_option maxHeartbeats 4000000 in
set_option maxRecDepth 100000 in
theorem mSecret_stillHas (l : Launch) (D : va_G) (A : Nat → Prop) (n : Nat) (z z' : gS) (a0 : Nat) (a1 : Nat) (r : Int32) (hf : fSecret_stillHas n a0 a1 z = some (r, z')) : Met l ySecret_stillHas wsSecret_stillHas ({ frames := 0, cells := 0, slots := 0, locals := 0 }) (g_P D vwCl gNN gOO A z [.ref a0, .ref a1]) (g_Qi D vwCl A r z') 0 0 A := by
  refine Met.ofW (cc := cSecret_stillHas) (maxL := 2) (ret := (some .boolean)) (by decide) rfl ?_
  intro p e s m args below meth c s₁ B hml hv
  obtain ⟨rfl, hW, hK, hA0⟩ := hv
  have C : g_C p s m meth c _ cSecret_stillHas 2 (some .boolean) "SecretRows$Secret" gW D vwCl gNN gOO A := ⟨B.exec, B.bytes, B.returns, hml, findClass_of_methodNamed B.named, fun w hw => atoms_spec (ws := wsSecret_stillHas) B.pre w (List.mem_cons_of_mem _ hw), B.notSynchronized, hK, fun q hq => hA0 q (by rw [← hW.1]; exact hq)⟩
  have hS : va_S A s.heap s.heap [] := va_S.rf
  have hl := lv_entry ([.ref a0, .ref a1]) (n := 2) (Nat.le_of_ble_eq_true rfl)
  rw [lg_entry_eq]
  generalize (lg_sl ([.ref a0, .ref a1]) ++ List.replicate (2 - (lg_sl ([.ref a0, .ref a1])).length) Slot.unset).toArray = ls at hl ⊢
  have hl : lv_has ls 2 [(0, .ref a0), (1, .ref a1)] := hl
  obtain ⟨hx, hb, hr, hml, hown, hts, hlocks, hK, hA⟩ := id C
  unfold fSecret_stillHas at hf
  refine lv_aload_n hx hb dSecret_stillHas_0 rfl (lv_at hl 0 rfl) ?_
  replace hf := g_bd hf
  obtain ⟨r_1, hr_1, hf⟩ := hf
  refine g_getR hx hb hts in_Secret hown hK hW (ci := 2) (C := "SecretRows$Secret") (T := T_Secret) (N := 7) rfl (k := 3) (by decide) (hts _ kw_136) (fun _ h9 => h9) hr_1 dSecret_stillHas_1 ?_
  cases r_1 with
  | none =>
    replace hf := g_n0 hf
    refine W.eq (g2 := F0 m 4 _ [.null]) rfl ?_
    refine lv_ifnullN (tgt := 25) hx hb dSecret_stillHas_4 (by decide) ?_
    refine lv_iconst (v := 0) hx hb dSecret_stillHas_25 (by decide) ?_
    cases hf
    exact g_retz hx hb hr rfl hlocks hW hS (Nat.le_of_ble_eq_true rfl) (Nat.le_of_ble_eq_true rfl) dSecret_stillHas_26
  | some a_2 =>
    replace hf := g_n1 hf
    refine W.eq (g2 := F0 m 4 _ [.ref a_2]) rfl ?_
    refine lv_ifnull hx hb dSecret_stillHas_4 ?_
    refine lv_aload_n hx hb dSecret_stillHas_7 rfl (lv_at hl 0 rfl) ?_
    replace hf := g_bd hf
    obtain ⟨r_3, hr_3, hf⟩ := hf
    refine g_getR hx hb hts in_Secret hown hK hW (ci := 2) (C := "SecretRows$Secret") (T := T_Secret) (N := 7) rfl (k := 3) (by decide) (hts _ kw_136) (fun _ h9 => h9) hr_3 dSecret_stillHas_8 ?_
    replace hf := g_bd hf
    obtain ⟨a_4, ea_4, hf⟩ := hf
    subst ea_4
    refine W.eq (g2 := F0 m 11 _ [.ref a_4]) rfl ?_
    replace hf := g_bd hf
    obtain ⟨v_5, hv_5, hf⟩ := hf
    refine g_getIN hx hb hts in_Value hown hK hW (ci := 1) (C := "SecretRows$Value") (T := T_Value) (N := 4) rfl (k := 0) (by decide) (host := "SecretRows") kw_240 (fun _ h9 => h9) hv_5 dSecret_stillHas_11 ?_
    refine lv_aload_n hx hb dSecret_stillHas_14 rfl (lv_at hl 1 rfl) ?_
    replace hf := g_bd hf
    obtain ⟨v_6, hv_6, hf⟩ := hf
    refine g_getIN hx hb hts in_Value hown hK hW (ci := 1) (C := "SecretRows$Value") (T := T_Value) (N := 4) rfl (k := 0) (by decide) (host := "SecretRows") kw_240 (fun _ h9 => h9) hv_6 dSecret_stillHas_15 ?_
    refine lv_icmp_ne (tgt := 25) hx hb dSecret_stillHas_18 (by decide) (fun c_7 => ?_) (fun c_7 => ?_)
    · replace hf := g_if c_7 hf
      refine lv_iconst (v := 0) hx hb dSecret_stillHas_25 (by decide) ?_
      cases hf
      exact g_retz hx hb hr rfl hlocks hW hS (Nat.le_of_ble_eq_true rfl) (Nat.le_of_ble_eq_true rfl) dSecret_stillHas_26
    · replace hf := g_it c_7 hf
      refine lv_iconst (v := 1) hx hb dSecret_stillHas_21 (by decide) ?_
      refine lv_goto (tgt := 26) hx hb dSecret_stillHas_22 (by decide) ?_
      cases hf
      exact g_retz hx hb hr rfl hlocks hW hS (Nat.le_of_ble_eq_true rfl) (Nat.le_of_ble_eq_true rfl) dSecret_stillHas_26

def fMain_good (n : Nat) (a0 : Nat) (i1 : Int32) (z : gS) : Option (Int32 × gS) :=
    if i1 < 0 then (
    some (0, z))
    else (
    (g_fI z a0 8 8).bind fun v_2 =>
    if v_2 ≤ i1 then (
    some (0, z))
    else (
    (g_fR z a0 8 2).bind fun r_4 =>
    r_4.bind fun a_5 =>
    (g_len z a_5).bind fun v_6 =>
    if i1 < v_6 then (
    (g_fR z a0 8 2).bind fun r_8 =>
    r_8.bind fun a_9 =>
    (g_ldR z (.object "SecretRows$Token") a_9 i1).bind fun r_10 =>
    g_n r_10 (
    some (0, z)) (fun a_11 =>
    (g_fI z a_11 5 0).bind fun v_12 =>
    (g_is z a0 8).bind fun _ =>
    g_bp (fMain_findSecret n a0 v_12 z) fun r_15 z_14 =>
    (g_fI z_14 a0 8 10).bind fun v_16 =>
    (g_fI z_14 a_11 5 2).bind fun v_17 =>
    if v_17 ≤ v_16 then (
    some (0, z_14))
    else (
    g_n r_15 (
    some (0, z_14)) (fun a_19 =>
    (g_fI z_14 a_19 2 6).bind fun v_20 =>
    if v_20 = 0 then (
    (g_fR z_14 a_11 5 1).bind fun r_22 =>
    r_22.bind fun a_23 =>
    (g_is z_14 a_19 2).bind fun _ =>
    g_bp (fSecret_stillHas n a_19 a_23 z_14) fun v_26 z_25 =>
    if v_26 = 0 then (
    some (0, z_25))
    else (
    some (1, z_25)))
    else (
    some (0, z_14))))))
    else (
    some (0, z))))
set_option maxHeartbeats 4000000 in
set_option maxRecDepth 100000 in
theorem mMain_good (l : Launch) (D : va_G) (A : Nat → Prop) (n : Nat) (z z' : gS) (a0 : Nat) (i1 : Int32) (r : Int32) (hf : fMain_good n a0 i1 z = some (r, z')) : Met l yMain_good wsMain_good ({ frames := 1, cells := 0, slots := 0, locals := 21 }) (g_P D vwCl gNN gOO A z [.ref a0, .int i1]) (g_Qi D vwCl A r z') 0 0 A := by
  refine Met.ofW (cc := cMain_good) (maxL := 4) (ret := (some .boolean)) (by decide) rfl ?_
  intro p e s m args below meth c s₁ B hml hv
  obtain ⟨rfl, hW, hK, hA0⟩ := hv
  have C : g_C p s m meth c _ cMain_good 4 (some .boolean) "SecretRows" gW D vwCl gNN gOO A := ⟨B.exec, B.bytes, B.returns, hml, findClass_of_methodNamed B.named, fun w hw => atoms_spec (ws := wsMain_good) B.pre w (List.mem_cons_of_mem _ hw), B.notSynchronized, hK, fun q hq => hA0 q (by rw [← hW.1]; exact hq)⟩
  have hS : va_S A s.heap s.heap [] := va_S.rf
  have hl := lv_entry ([.ref a0, .int i1]) (n := 4) (Nat.le_of_ble_eq_true rfl)
  rw [lg_entry_eq]
  generalize (lg_sl ([.ref a0, .int i1]) ++ List.replicate (4 - (lg_sl ([.ref a0, .int i1])).length) Slot.unset).toArray = ls at hl ⊢
  have hl : lv_has ls 4 [(0, .ref a0), (1, .int i1)] := hl
  obtain ⟨hx, hb, hr, hml, hown, hts, hlocks, hK, hA⟩ := id C
  unfold fMain_good at hf
  refine lv_iload_n hx hb dMain_good_0 rfl (lv_at hl 1 rfl) ?_
  refine lv_if_lt (tgt := 21) hx hb dMain_good_1 (by decide) (fun c_1 => ?_) (fun c_1 => ?_)
  · replace hf := g_it c_1 hf
    refine lv_iconst (v := 0) hx hb dMain_good_21 (by decide) ?_
    cases hf
    exact g_retz hx hb hr rfl hlocks hW hS (Nat.le_of_ble_eq_true rfl) (Nat.le_of_ble_eq_true rfl) dMain_good_22
  · replace hf := g_if c_1 hf
    refine lv_iload_n hx hb dMain_good_4 rfl (lv_at hl 1 rfl) ?_
    refine lv_aload_n hx hb dMain_good_5 rfl (lv_at hl 0 rfl) ?_
    replace hf := g_bd hf
    obtain ⟨v_2, hv_2, hf⟩ := hf
    refine g_getI hx hb hts in_Main hown hK hW (ci := 8) (C := "SecretRows") (T := T_Main) (N := 14) rfl (k := 8) (by decide) (hts _ kw_89) (fun _ h9 => h9) hv_2 dMain_good_6 ?_
    refine lv_icmp_ge (tgt := 21) hx hb dMain_good_9 (by decide) (fun c_3 => ?_) (fun c_3 => ?_)
    · replace hf := g_it c_3 hf
      refine lv_iconst (v := 0) hx hb dMain_good_21 (by decide) ?_
      cases hf
      exact g_retz hx hb hr rfl hlocks hW hS (Nat.le_of_ble_eq_true rfl) (Nat.le_of_ble_eq_true rfl) dMain_good_22
    · replace hf := g_if c_3 hf
      refine lv_iload_n hx hb dMain_good_12 rfl (lv_at hl 1 rfl) ?_
      refine lv_aload_n hx hb dMain_good_13 rfl (lv_at hl 0 rfl) ?_
      replace hf := g_bd hf
      obtain ⟨r_4, hr_4, hf⟩ := hf
      refine g_getR hx hb hts in_Main hown hK hW (ci := 8) (C := "SecretRows") (T := T_Main) (N := 14) rfl (k := 2) (by decide) (hts _ kw_83) (fun _ h9 => h9) hr_4 dMain_good_14 ?_
      replace hf := g_bd hf
      obtain ⟨a_5, ea_5, hf⟩ := hf
      subst ea_5
      refine W.eq (g2 := F0 m 17 _ [.ref a_5, .int i1]) rfl ?_
      replace hf := g_bd hf
      obtain ⟨v_6, hv_6, hf⟩ := hf
      refine g_alen hx hb hK hW hv_6 dMain_good_17 ?_
      refine lv_icmp_lt (tgt := 23) hx hb dMain_good_18 (by decide) (fun c_7 => ?_) (fun c_7 => ?_)
      · replace hf := g_it c_7 hf
        refine lv_aload_n hx hb dMain_good_23 rfl (lv_at hl 0 rfl) ?_
        replace hf := g_bd hf
        obtain ⟨r_8, hr_8, hf⟩ := hf
        refine g_getR hx hb hts in_Main hown hK hW (ci := 8) (C := "SecretRows") (T := T_Main) (N := 14) rfl (k := 2) (by decide) (hts _ kw_83) (fun _ h9 => h9) hr_8 dMain_good_24 ?_
        refine lv_iload_n hx hb dMain_good_27 rfl (lv_at hl 1 rfl) ?_
        replace hf := g_bd hf
        obtain ⟨a_9, ea_9, hf⟩ := hf
        subst ea_9
        refine W.eq (g2 := F0 m 28 _ [.int i1, .ref a_9]) rfl ?_
        replace hf := g_bd hf
        obtain ⟨r_10, hr_10, hf⟩ := hf
        refine g_ald_r hx hb hK hW hr_10 dMain_good_28 ?_
        refine g_astore_n (lv' := [(2, va_rf r_10), (0, .ref a0), (1, .int i1)]) hx hb dMain_good_29 rfl hl (by decide) rfl (fun _ hl1 => ?_)
        clear hl
        have hl := hl1
        clear hl1
        refine g_aload_n hx hb dMain_good_30 rfl (lv_at hl 0 rfl) ?_
        cases r_10 with
        | none =>
          replace hf := g_n0 hf
          replace hl : lv_has _ 4 [(2, .null), (0, .ref a0), (1, .int i1)] := hl
          refine W.eq (g2 := F0 m 31 _ [.null]) rfl ?_
          refine lv_ifnonnullN hx hb dMain_good_31 ?_
          refine lv_iconst (v := 0) hx hb dMain_good_34 (by decide) ?_
          cases hf
          exact g_retz hx hb hr rfl hlocks hW hS (Nat.le_of_ble_eq_true rfl) (Nat.le_of_ble_eq_true rfl) dMain_good_35
        | some a_11 =>
          replace hf := g_n1 hf
          replace hl : lv_has _ 4 [(2, .ref a_11), (0, .ref a0), (1, .int i1)] := hl
          refine W.eq (g2 := F0 m 31 _ [.ref a_11]) rfl ?_
          refine lv_ifnonnull (tgt := 36) hx hb dMain_good_31 (by decide) ?_
          refine lv_aload_n hx hb dMain_good_36 rfl (lv_at hl 1 rfl) ?_
          refine lv_aload_n hx hb dMain_good_37 rfl (lv_at hl 0 rfl) ?_
          replace hf := g_bd hf
          obtain ⟨v_12, hv_12, hf⟩ := hf
          refine g_getIN hx hb hts in_Token hown hK hW (ci := 5) (C := "SecretRows$Token") (T := T_Token) (N := 3) rfl (k := 0) (by decide) (host := "SecretRows") kw_469 (fun _ h9 => h9) hv_12 dMain_good_38 ?_
          replace hf := g_bd hf
          obtain ⟨_, hi_13, hf⟩ := hf
          replace hf := g_bps hf
          obtain ⟨r_15, z_14, hz_14, hf⟩ := hf
          refine g_goq (g_rV (As := [.int v_12]) (rest := []) ⟨hx, hb, hml, hown, hts⟩ (mMain_findSecret l D A n _ _ a0 v_12 _ hz_14) (cwV 1 hts (gi_V kw_170 kw_172 ks_Main_findSecret kw_1 kw_173) rfl rfl rfl ⟨rfl, hdMain_findSecret⟩ ⟨Nat.le_of_ble_eq_true rfl, Nat.le_of_ble_eq_true rfl⟩) hK hW hS hA (ci := 8) (T := T_Main) (N := 14) rfl hi_13 rfl hl.1 rfl (Nat.le_of_ble_eq_true rfl) dMain_good_41 ⟨Nat.le_of_ble_eq_true rfl, Nat.le_of_ble_eq_true rfl⟩) hS (fun H locs hW hS => ?_)
          refine g_astore_n (lv' := [(3, va_rf r_15), (2, .ref a_11), (0, .ref a0), (1, .int i1)]) hx hb dMain_good_44 rfl hl (by decide) rfl (fun _ hl1 => ?_)
          clear hl
          have hl := hl1
          clear hl1
          refine lv_aload_n hx hb dMain_good_45 rfl (lv_at hl 2 rfl) ?_
          replace hf := g_bd hf
          obtain ⟨v_16, hv_16, hf⟩ := hf
          refine g_getI hx hb hts in_Main hown hK hW (ci := 8) (C := "SecretRows") (T := T_Main) (N := 14) rfl (k := 10) (by decide) (hts _ kw_91) (fun _ h9 => h9) hv_16 dMain_good_46 ?_
          refine lv_aload_n hx hb dMain_good_49 rfl (lv_at hl 1 rfl) ?_
          replace hf := g_bd hf
          obtain ⟨v_17, hv_17, hf⟩ := hf
          refine g_getIN hx hb hts in_Token hown hK hW (ci := 5) (C := "SecretRows$Token") (T := T_Token) (N := 3) rfl (k := 2) (by decide) (host := "SecretRows") kw_473 (fun _ h9 => h9) hv_17 dMain_good_50 ?_
          refine lv_icmp_ge (tgt := 82) hx hb dMain_good_53 (by decide) (fun c_18 => ?_) (fun c_18 => ?_)
          · replace hf := g_it c_18 hf
            refine lv_iconst (v := 0) hx hb dMain_good_82 (by decide) ?_
            cases hf
            exact g_retz hx hb hr rfl hlocks hW hS (Nat.le_of_ble_eq_true rfl) (Nat.le_of_ble_eq_true rfl) dMain_good_83
          · replace hf := g_if c_18 hf
            refine g_aload_n hx hb dMain_good_56 rfl (lv_at hl 0 rfl) ?_
            cases r_15 with
            | none =>
              replace hf := g_n0 hf
              replace hl : lv_has _ 4 [(3, .null), (2, .ref a_11), (0, .ref a0), (1, .int i1)] := hl
              refine W.eq (g2 := F0 m 57 _ [.null]) rfl ?_
              refine lv_ifnullN (tgt := 82) hx hb dMain_good_57 (by decide) ?_
              refine lv_iconst (v := 0) hx hb dMain_good_82 (by decide) ?_
              cases hf
              exact g_retz hx hb hr rfl hlocks hW hS (Nat.le_of_ble_eq_true rfl) (Nat.le_of_ble_eq_true rfl) dMain_good_83
            | some a_19 =>
              replace hf := g_n1 hf
              replace hl : lv_has _ 4 [(3, .ref a_19), (2, .ref a_11), (0, .ref a0), (1, .int i1)] := hl
              refine W.eq (g2 := F0 m 57 _ [.ref a_19]) rfl ?_
              refine lv_ifnull hx hb dMain_good_57 ?_
              refine lv_aload_n hx hb dMain_good_60 rfl (lv_at hl 0 rfl) ?_
              replace hf := g_bd hf
              obtain ⟨v_20, hv_20, hf⟩ := hf
              refine g_getIN hx hb hts in_Secret hown hK hW (ci := 2) (C := "SecretRows$Secret") (T := T_Secret) (N := 7) rfl (k := 6) (by decide) (host := "SecretRows") kw_142 (fun _ h9 => h9) hv_20 dMain_good_61 ?_
              refine lv_if_ne (tgt := 82) hx hb dMain_good_64 (by decide) (fun c_21 => ?_) (fun c_21 => ?_)
              · replace hf := g_if c_21 hf
                refine lv_iconst (v := 0) hx hb dMain_good_82 (by decide) ?_
                cases hf
                exact g_retz hx hb hr rfl hlocks hW hS (Nat.le_of_ble_eq_true rfl) (Nat.le_of_ble_eq_true rfl) dMain_good_83
              · replace hf := g_it c_21 hf
                refine lv_aload_n hx hb dMain_good_67 rfl (lv_at hl 0 rfl) ?_
                refine lv_aload_n hx hb dMain_good_68 rfl (lv_at hl 1 rfl) ?_
                replace hf := g_bd hf
                obtain ⟨r_22, hr_22, hf⟩ := hf
                refine g_getRN hx hb hts in_Token hown hK hW (ci := 5) (C := "SecretRows$Token") (T := T_Token) (N := 3) rfl (k := 1) (by decide) (host := "SecretRows") kw_471 (fun _ h9 => h9) hr_22 dMain_good_69 ?_
                replace hf := g_bd hf
                obtain ⟨a_23, ea_23, hf⟩ := hf
                subst ea_23
                refine W.eq (g2 := F0 m 72 _ [.ref a_23, .ref a_19]) rfl ?_
                replace hf := g_bd hf
                obtain ⟨_, hi_24, hf⟩ := hf
                replace hf := g_bps hf
                obtain ⟨v_26, z_25, hz_25, hf⟩ := hf
                refine g_goi (g_rV (As := [.ref a_23]) (rest := []) ⟨hx, hb, hml, hown, hts⟩ (mSecret_stillHas l D A n _ _ a_19 a_23 _ hz_25) (cwV 1 hts (gi_V kw_485 kw_486 kw_487 kw_7 kw_488) rfl rfl rfl ⟨rfl, hdSecret_stillHas⟩ ⟨Nat.le_of_ble_eq_true rfl, Nat.le_of_ble_eq_true rfl⟩) hK hW hS hA (ci := 2) (T := T_Secret) (N := 7) rfl hi_24 rfl hl.1 rfl (Nat.le_of_ble_eq_true rfl) dMain_good_72 ⟨Nat.le_of_ble_eq_true rfl, Nat.le_of_ble_eq_true rfl⟩) hS (fun H locs hW hS => ?_)
                refine lv_if_eq (tgt := 82) hx hb dMain_good_75 (by decide) (fun c_27 => ?_) (fun c_27 => ?_)
                · replace hf := g_it c_27 hf
                  refine lv_iconst (v := 0) hx hb dMain_good_82 (by decide) ?_
                  cases hf
                  exact g_retz hx hb hr rfl hlocks hW hS (Nat.le_of_ble_eq_true rfl) (Nat.le_of_ble_eq_true rfl) dMain_good_83
                · replace hf := g_if c_27 hf
                  refine lv_iconst (v := 1) hx hb dMain_good_78 (by decide) ?_
                  refine lv_goto (tgt := 83) hx hb dMain_good_79 (by decide) ?_
                  cases hf
                  exact g_retz hx hb hr rfl hlocks hW hS (Nat.le_of_ble_eq_true rfl) (Nat.le_of_ble_eq_true rfl) dMain_good_83
      · replace hf := g_if c_7 hf
        refine lv_iconst (v := 0) hx hb dMain_good_21 (by decide) ?_
        cases hf
        exact g_retz hx hb hr rfl hlocks hW hS (Nat.le_of_ble_eq_true rfl) (Nat.le_of_ble_eq_true rfl) dMain_good_22

def fForms_ownerOf (n : Nat) (a0 : Nat) (i1 : Int32) (z : gS) : Option (Int32 × gS) :=
    (g_is z a0 7).bind fun _ =>
    g_bp (fForms_isThere n a0 i1 z) fun v_3 z_2 =>
    if v_3 = 0 then (
    some ((-1), z_2))
    else (
    (g_fR z_2 a0 7 1).bind fun r_5 =>
    r_5.bind fun a_6 =>
    (g_ldI z_2 .int a_6 i1).bind fun v_7 =>
    some (v_7, z_2))
set_option maxHeartbeats 4000000 in
set_option maxRecDepth 100000 in
theorem mForms_ownerOf (l : Launch) (D : va_G) (A : Nat → Prop) (n : Nat) (z z' : gS) (a0 : Nat) (i1 : Int32) (r : Int32) (hf : fForms_ownerOf n a0 i1 z = some (r, z')) : Met l yForms_ownerOf wsForms_ownerOf ({ frames := 1, cells := 0, slots := 0, locals := 21 }) (g_P D vwCl gNN gOO A z [.ref a0, .int i1]) (g_Qi D vwCl A r z') 0 0 A := by
  refine Met.ofW (cc := cForms_ownerOf) (maxL := 2) (ret := (some .int)) (by decide) rfl ?_
  intro p e s m args below meth c s₁ B hml hv
  obtain ⟨rfl, hW, hK, hA0⟩ := hv
  have C : g_C p s m meth c _ cForms_ownerOf 2 (some .int) "SecretRows$Forms" gW D vwCl gNN gOO A := ⟨B.exec, B.bytes, B.returns, hml, findClass_of_methodNamed B.named, fun w hw => atoms_spec (ws := wsForms_ownerOf) B.pre w (List.mem_cons_of_mem _ hw), B.notSynchronized, hK, fun q hq => hA0 q (by rw [← hW.1]; exact hq)⟩
  have hS : va_S A s.heap s.heap [] := va_S.rf
  have hl := lv_entry ([.ref a0, .int i1]) (n := 2) (Nat.le_of_ble_eq_true rfl)
  rw [lg_entry_eq]
  generalize (lg_sl ([.ref a0, .int i1]) ++ List.replicate (2 - (lg_sl ([.ref a0, .int i1])).length) Slot.unset).toArray = ls at hl ⊢
  have hl : lv_has ls 2 [(0, .ref a0), (1, .int i1)] := hl
  obtain ⟨hx, hb, hr, hml, hown, hts, hlocks, hK, hA⟩ := id C
  unfold fForms_ownerOf at hf
  refine lv_aload_n hx hb dForms_ownerOf_0 rfl (lv_at hl 0 rfl) ?_
  refine lv_iload_n hx hb dForms_ownerOf_1 rfl (lv_at hl 1 rfl) ?_
  replace hf := g_bd hf
  obtain ⟨_, hi_1, hf⟩ := hf
  replace hf := g_bps hf
  obtain ⟨v_3, z_2, hz_2, hf⟩ := hf
  refine g_goi (g_rV (As := [.int i1]) (rest := []) ⟨hx, hb, hml, hown, hts⟩ (mForms_isThere l D A n _ _ a0 i1 _ hz_2) (cwV 1 hts (gi_V kw_420 kw_422 ks_Forms_isThere kw_5 kw_423) rfl rfl rfl ⟨rfl, hdForms_isThere⟩ ⟨Nat.le_of_ble_eq_true rfl, Nat.le_of_ble_eq_true rfl⟩) hK hW hS hA (ci := 7) (T := T_Forms) (N := 5) rfl hi_1 rfl hl.1 rfl (Nat.le_of_ble_eq_true rfl) dForms_ownerOf_2 ⟨Nat.le_of_ble_eq_true rfl, Nat.le_of_ble_eq_true rfl⟩) hS (fun H locs hW hS => ?_)
  refine lv_if_eq (tgt := 17) hx hb dForms_ownerOf_5 (by decide) (fun c_4 => ?_) (fun c_4 => ?_)
  · replace hf := g_it c_4 hf
    refine lv_iconst (v := (-1)) hx hb dForms_ownerOf_17 (by decide) ?_
    cases hf
    exact g_reti hx hb hr hlocks hW hS (Nat.le_of_ble_eq_true rfl) (Nat.le_of_ble_eq_true rfl) dForms_ownerOf_18
  · replace hf := g_if c_4 hf
    refine lv_aload_n hx hb dForms_ownerOf_8 rfl (lv_at hl 0 rfl) ?_
    replace hf := g_bd hf
    obtain ⟨r_5, hr_5, hf⟩ := hf
    refine g_getR hx hb hts in_Forms hown hK hW (ci := 7) (C := "SecretRows$Forms") (T := T_Forms) (N := 5) rfl (k := 1) (by decide) (hts _ kw_66) (fun _ h9 => h9) hr_5 dForms_ownerOf_9 ?_
    refine lv_iload_n hx hb dForms_ownerOf_12 rfl (lv_at hl 1 rfl) ?_
    replace hf := g_bd hf
    obtain ⟨a_6, ea_6, hf⟩ := hf
    subst ea_6
    refine W.eq (g2 := F0 m 13 _ [.int i1, .ref a_6]) rfl ?_
    replace hf := g_bd hf
    obtain ⟨v_7, hv_7, hf⟩ := hf
    refine g_ald_i hx hb hK hW hv_7 dForms_ownerOf_13 ?_
    refine lv_goto (tgt := 18) hx hb dForms_ownerOf_14 (by decide) ?_
    cases hf
    exact g_reti hx hb hr hlocks hW hS (Nat.le_of_ble_eq_true rfl) (Nat.le_of_ble_eq_true rfl) dForms_ownerOf_18

def fForms_kindOf (n : Nat) (a0 : Nat) (i1 : Int32) (z : gS) : Option (Int32 × gS) :=
    (g_is z a0 7).bind fun _ =>
    g_bp (fForms_isThere n a0 i1 z) fun v_3 z_2 =>
    if v_3 = 0 then (
    some ((-1), z_2))
    else (
    (g_fR z_2 a0 7 2).bind fun r_5 =>
    r_5.bind fun a_6 =>
    (g_ldI z_2 .int a_6 i1).bind fun v_7 =>
    some (v_7, z_2))
set_option maxHeartbeats 4000000 in
set_option maxRecDepth 100000 in
theorem mForms_kindOf (l : Launch) (D : va_G) (A : Nat → Prop) (n : Nat) (z z' : gS) (a0 : Nat) (i1 : Int32) (r : Int32) (hf : fForms_kindOf n a0 i1 z = some (r, z')) : Met l yForms_kindOf wsForms_kindOf ({ frames := 1, cells := 0, slots := 0, locals := 21 }) (g_P D vwCl gNN gOO A z [.ref a0, .int i1]) (g_Qi D vwCl A r z') 0 0 A := by
  refine Met.ofW (cc := cForms_kindOf) (maxL := 2) (ret := (some .int)) (by decide) rfl ?_
  intro p e s m args below meth c s₁ B hml hv
  obtain ⟨rfl, hW, hK, hA0⟩ := hv
  have C : g_C p s m meth c _ cForms_kindOf 2 (some .int) "SecretRows$Forms" gW D vwCl gNN gOO A := ⟨B.exec, B.bytes, B.returns, hml, findClass_of_methodNamed B.named, fun w hw => atoms_spec (ws := wsForms_kindOf) B.pre w (List.mem_cons_of_mem _ hw), B.notSynchronized, hK, fun q hq => hA0 q (by rw [← hW.1]; exact hq)⟩
  have hS : va_S A s.heap s.heap [] := va_S.rf
  have hl := lv_entry ([.ref a0, .int i1]) (n := 2) (Nat.le_of_ble_eq_true rfl)
  rw [lg_entry_eq]
  generalize (lg_sl ([.ref a0, .int i1]) ++ List.replicate (2 - (lg_sl ([.ref a0, .int i1])).length) Slot.unset).toArray = ls at hl ⊢
  have hl : lv_has ls 2 [(0, .ref a0), (1, .int i1)] := hl
  obtain ⟨hx, hb, hr, hml, hown, hts, hlocks, hK, hA⟩ := id C
  unfold fForms_kindOf at hf
  refine lv_aload_n hx hb dForms_kindOf_0 rfl (lv_at hl 0 rfl) ?_
  refine lv_iload_n hx hb dForms_kindOf_1 rfl (lv_at hl 1 rfl) ?_
  replace hf := g_bd hf
  obtain ⟨_, hi_1, hf⟩ := hf
  replace hf := g_bps hf
  obtain ⟨v_3, z_2, hz_2, hf⟩ := hf
  refine g_goi (g_rV (As := [.int i1]) (rest := []) ⟨hx, hb, hml, hown, hts⟩ (mForms_isThere l D A n _ _ a0 i1 _ hz_2) (cwV 1 hts (gi_V kw_420 kw_422 ks_Forms_isThere kw_5 kw_423) rfl rfl rfl ⟨rfl, hdForms_isThere⟩ ⟨Nat.le_of_ble_eq_true rfl, Nat.le_of_ble_eq_true rfl⟩) hK hW hS hA (ci := 7) (T := T_Forms) (N := 5) rfl hi_1 rfl hl.1 rfl (Nat.le_of_ble_eq_true rfl) dForms_kindOf_2 ⟨Nat.le_of_ble_eq_true rfl, Nat.le_of_ble_eq_true rfl⟩) hS (fun H locs hW hS => ?_)
  refine lv_if_eq (tgt := 17) hx hb dForms_kindOf_5 (by decide) (fun c_4 => ?_) (fun c_4 => ?_)
  · replace hf := g_it c_4 hf
    refine lv_iconst (v := (-1)) hx hb dForms_kindOf_17 (by decide) ?_
    cases hf
    exact g_reti hx hb hr hlocks hW hS (Nat.le_of_ble_eq_true rfl) (Nat.le_of_ble_eq_true rfl) dForms_kindOf_18
  · replace hf := g_if c_4 hf
    refine lv_aload_n hx hb dForms_kindOf_8 rfl (lv_at hl 0 rfl) ?_
    replace hf := g_bd hf
    obtain ⟨r_5, hr_5, hf⟩ := hf
    refine g_getR hx hb hts in_Forms hown hK hW (ci := 7) (C := "SecretRows$Forms") (T := T_Forms) (N := 5) rfl (k := 2) (by decide) (hts _ kw_67) (fun _ h9 => h9) hr_5 dForms_kindOf_9 ?_
    refine lv_iload_n hx hb dForms_kindOf_12 rfl (lv_at hl 1 rfl) ?_
    replace hf := g_bd hf
    obtain ⟨a_6, ea_6, hf⟩ := hf
    subst ea_6
    refine W.eq (g2 := F0 m 13 _ [.int i1, .ref a_6]) rfl ?_
    replace hf := g_bd hf
    obtain ⟨v_7, hv_7, hf⟩ := hf
    refine g_ald_i hx hb hK hW hv_7 dForms_kindOf_13 ?_
    refine lv_goto (tgt := 18) hx hb dForms_kindOf_14 (by decide) ?_
    cases hf
    exact g_reti hx hb hr hlocks hW hS (Nat.le_of_ble_eq_true rfl) (Nat.le_of_ble_eq_true rfl) dForms_kindOf_18

def fForms_oldOf (n : Nat) (a0 : Nat) (i1 : Int32) (z : gS) : Option (Int32 × gS) :=
    (g_is z a0 7).bind fun _ =>
    g_bp (fForms_isThere n a0 i1 z) fun v_3 z_2 =>
    if v_3 = 0 then (
    some ((-1), z_2))
    else (
    (g_fR z_2 a0 7 3).bind fun r_5 =>
    r_5.bind fun a_6 =>
    (g_ldI z_2 .int a_6 i1).bind fun v_7 =>
    some (v_7, z_2))
set_option maxHeartbeats 4000000 in
set_option maxRecDepth 100000 in
theorem mForms_oldOf (l : Launch) (D : va_G) (A : Nat → Prop) (n : Nat) (z z' : gS) (a0 : Nat) (i1 : Int32) (r : Int32) (hf : fForms_oldOf n a0 i1 z = some (r, z')) : Met l yForms_oldOf wsForms_oldOf ({ frames := 1, cells := 0, slots := 0, locals := 21 }) (g_P D vwCl gNN gOO A z [.ref a0, .int i1]) (g_Qi D vwCl A r z') 0 0 A := by
  refine Met.ofW (cc := cForms_oldOf) (maxL := 2) (ret := (some .int)) (by decide) rfl ?_
  intro p e s m args below meth c s₁ B hml hv
  obtain ⟨rfl, hW, hK, hA0⟩ := hv
  have C : g_C p s m meth c _ cForms_oldOf 2 (some .int) "SecretRows$Forms" gW D vwCl gNN gOO A := ⟨B.exec, B.bytes, B.returns, hml, findClass_of_methodNamed B.named, fun w hw => atoms_spec (ws := wsForms_oldOf) B.pre w (List.mem_cons_of_mem _ hw), B.notSynchronized, hK, fun q hq => hA0 q (by rw [← hW.1]; exact hq)⟩
  have hS : va_S A s.heap s.heap [] := va_S.rf
  have hl := lv_entry ([.ref a0, .int i1]) (n := 2) (Nat.le_of_ble_eq_true rfl)
  rw [lg_entry_eq]
  generalize (lg_sl ([.ref a0, .int i1]) ++ List.replicate (2 - (lg_sl ([.ref a0, .int i1])).length) Slot.unset).toArray = ls at hl ⊢
  have hl : lv_has ls 2 [(0, .ref a0), (1, .int i1)] := hl
  obtain ⟨hx, hb, hr, hml, hown, hts, hlocks, hK, hA⟩ := id C
  unfold fForms_oldOf at hf
  refine lv_aload_n hx hb dForms_oldOf_0 rfl (lv_at hl 0 rfl) ?_
  refine lv_iload_n hx hb dForms_oldOf_1 rfl (lv_at hl 1 rfl) ?_
  replace hf := g_bd hf
  obtain ⟨_, hi_1, hf⟩ := hf
  replace hf := g_bps hf
  obtain ⟨v_3, z_2, hz_2, hf⟩ := hf
  refine g_goi (g_rV (As := [.int i1]) (rest := []) ⟨hx, hb, hml, hown, hts⟩ (mForms_isThere l D A n _ _ a0 i1 _ hz_2) (cwV 1 hts (gi_V kw_420 kw_422 ks_Forms_isThere kw_5 kw_423) rfl rfl rfl ⟨rfl, hdForms_isThere⟩ ⟨Nat.le_of_ble_eq_true rfl, Nat.le_of_ble_eq_true rfl⟩) hK hW hS hA (ci := 7) (T := T_Forms) (N := 5) rfl hi_1 rfl hl.1 rfl (Nat.le_of_ble_eq_true rfl) dForms_oldOf_2 ⟨Nat.le_of_ble_eq_true rfl, Nat.le_of_ble_eq_true rfl⟩) hS (fun H locs hW hS => ?_)
  refine lv_if_eq (tgt := 17) hx hb dForms_oldOf_5 (by decide) (fun c_4 => ?_) (fun c_4 => ?_)
  · replace hf := g_it c_4 hf
    refine lv_iconst (v := (-1)) hx hb dForms_oldOf_17 (by decide) ?_
    cases hf
    exact g_reti hx hb hr hlocks hW hS (Nat.le_of_ble_eq_true rfl) (Nat.le_of_ble_eq_true rfl) dForms_oldOf_18
  · replace hf := g_if c_4 hf
    refine lv_aload_n hx hb dForms_oldOf_8 rfl (lv_at hl 0 rfl) ?_
    replace hf := g_bd hf
    obtain ⟨r_5, hr_5, hf⟩ := hf
    refine g_getR hx hb hts in_Forms hown hK hW (ci := 7) (C := "SecretRows$Forms") (T := T_Forms) (N := 5) rfl (k := 3) (by decide) (hts _ kw_68) (fun _ h9 => h9) hr_5 dForms_oldOf_9 ?_
    refine lv_iload_n hx hb dForms_oldOf_12 rfl (lv_at hl 1 rfl) ?_
    replace hf := g_bd hf
    obtain ⟨a_6, ea_6, hf⟩ := hf
    subst ea_6
    refine W.eq (g2 := F0 m 13 _ [.int i1, .ref a_6]) rfl ?_
    replace hf := g_bd hf
    obtain ⟨v_7, hv_7, hf⟩ := hf
    refine g_ald_i hx hb hK hW hv_7 dForms_oldOf_13 ?_
    refine lv_goto (tgt := 18) hx hb dForms_oldOf_14 (by decide) ?_
    cases hf
    exact g_reti hx hb hr hlocks hW hS (Nat.le_of_ble_eq_true rfl) (Nat.le_of_ble_eq_true rfl) dForms_oldOf_18

def fMain_rememberLeak (n : Nat) (a0 : Nat) (i1 : Int32) (z : gS) : Option (gS) :=
    (g_fR z a0 8 5).bind fun r_1 =>
    r_1.bind fun a_2 =>
    (g_is z a_2 7).bind fun _ =>
    g_bp (fForms_ownerOf n a_2 i1 z) fun v_5 z_4 =>
    (g_pF z_4 a0 8 11 (.int v_5)).bind fun z_6 =>
    (g_fR z_6 a0 8 5).bind fun r_7 =>
    r_7.bind fun a_8 =>
    (g_is z_6 a_8 7).bind fun _ =>
    g_bp (fForms_kindOf n a_8 i1 z_6) fun v_11 z_10 =>
    (g_pF z_10 a0 8 12 (.int v_11)).bind fun z_12 =>
    (g_fR z_12 a0 8 5).bind fun r_13 =>
    r_13.bind fun a_14 =>
    (g_is z_12 a_14 7).bind fun _ =>
    g_bp (fForms_oldOf n a_14 i1 z_12) fun v_17 z_16 =>
    (g_pF z_16 a0 8 13 (.int v_17)).bind fun z_18 =>
    some z_18
set_option maxHeartbeats 4000000 in
set_option maxRecDepth 100000 in
theorem mMain_rememberLeak (l : Launch) (D : va_G) (A : Nat → Prop) (n : Nat) (z z' : gS) (a0 : Nat) (i1 : Int32) (hf : fMain_rememberLeak n a0 i1 z = some z') : Met l yMain_rememberLeak wsMain_rememberLeak ({ frames := 2, cells := 0, slots := 0, locals := 42 }) (g_P D vwCl gNN gOO A z [.ref a0, .int i1]) (g_Qv D vwCl A z') 0 0 A := by
  refine Met.ofW (cc := cMain_rememberLeak) (maxL := 2) (ret := none) (by decide) rfl ?_
  intro p e s m args below meth c s₁ B hml hv
  obtain ⟨rfl, hW, hK, hA0⟩ := hv
  have C : g_C p s m meth c _ cMain_rememberLeak 2 none "SecretRows" gW D vwCl gNN gOO A := ⟨B.exec, B.bytes, B.returns, hml, findClass_of_methodNamed B.named, fun w hw => atoms_spec (ws := wsMain_rememberLeak) B.pre w (List.mem_cons_of_mem _ hw), B.notSynchronized, hK, fun q hq => hA0 q (by rw [← hW.1]; exact hq)⟩
  have hS : va_S A s.heap s.heap [] := va_S.rf
  have hl := lv_entry ([.ref a0, .int i1]) (n := 2) (Nat.le_of_ble_eq_true rfl)
  rw [lg_entry_eq]
  generalize (lg_sl ([.ref a0, .int i1]) ++ List.replicate (2 - (lg_sl ([.ref a0, .int i1])).length) Slot.unset).toArray = ls at hl ⊢
  have hl : lv_has ls 2 [(0, .ref a0), (1, .int i1)] := hl
  obtain ⟨hx, hb, hr, hml, hown, hts, hlocks, hK, hA⟩ := id C
  unfold fMain_rememberLeak at hf
  refine lv_aload_n hx hb dMain_rememberLeak_0 rfl (lv_at hl 0 rfl) ?_
  refine lv_aload_n hx hb dMain_rememberLeak_1 rfl (lv_at hl 0 rfl) ?_
  replace hf := g_bd hf
  obtain ⟨r_1, hr_1, hf⟩ := hf
  refine g_getR hx hb hts in_Main hown hK hW (ci := 8) (C := "SecretRows") (T := T_Main) (N := 14) rfl (k := 5) (by decide) (hts _ kw_86) (fun _ h9 => h9) hr_1 dMain_rememberLeak_2 ?_
  refine lv_iload_n hx hb dMain_rememberLeak_5 rfl (lv_at hl 1 rfl) ?_
  replace hf := g_bd hf
  obtain ⟨a_2, ea_2, hf⟩ := hf
  subst ea_2
  refine W.eq (g2 := F0 m 6 _ [.int i1, .ref a_2, .ref a0]) rfl ?_
  replace hf := g_bd hf
  obtain ⟨_, hi_3, hf⟩ := hf
  replace hf := g_bps hf
  obtain ⟨v_5, z_4, hz_4, hf⟩ := hf
  refine g_goi (g_rV (As := [.int i1]) (rest := [.ref a0]) ⟨hx, hb, hml, hown, hts⟩ (mForms_ownerOf l D A n _ _ a_2 i1 _ hz_4) (cwV 1 hts (gi_V kw_498 kw_499 kw_500 kw_5 kw_501) rfl rfl rfl ⟨rfl, hdForms_ownerOf⟩ ⟨Nat.le_of_ble_eq_true rfl, Nat.le_of_ble_eq_true rfl⟩) hK hW hS hA (ci := 7) (T := T_Forms) (N := 5) rfl hi_3 rfl hl.1 rfl (Nat.le_of_ble_eq_true rfl) dMain_rememberLeak_6 ⟨Nat.le_of_ble_eq_true rfl, Nat.le_of_ble_eq_true rfl⟩) hS (fun H locs hW hS => ?_)
  replace hf := g_bd hf
  obtain ⟨z_6, hz_6, hf⟩ := hf
  refine g_put hx hb hts in_Main ty_Main tyok_Main nm_Main hown hK hW hS (ci := 8) (C := "SecretRows") (T := T_Main) (N := 14) rfl (k := 11) (by decide) (hts _ kw_92) (fun _ h9 => h9) rfl (ty := .int) (by decide +kernel) rfl rfl hz_6 dMain_rememberLeak_9 (fun H locs hW hS => ?_)
  refine lv_aload_n hx hb dMain_rememberLeak_12 rfl (lv_at hl 0 rfl) ?_
  refine lv_aload_n hx hb dMain_rememberLeak_13 rfl (lv_at hl 0 rfl) ?_
  replace hf := g_bd hf
  obtain ⟨r_7, hr_7, hf⟩ := hf
  refine g_getR hx hb hts in_Main hown hK hW (ci := 8) (C := "SecretRows") (T := T_Main) (N := 14) rfl (k := 5) (by decide) (hts _ kw_86) (fun _ h9 => h9) hr_7 dMain_rememberLeak_14 ?_
  refine lv_iload_n hx hb dMain_rememberLeak_17 rfl (lv_at hl 1 rfl) ?_
  replace hf := g_bd hf
  obtain ⟨a_8, ea_8, hf⟩ := hf
  subst ea_8
  refine W.eq (g2 := F0 m 18 _ [.int i1, .ref a_8, .ref a0]) rfl ?_
  replace hf := g_bd hf
  obtain ⟨_, hi_9, hf⟩ := hf
  replace hf := g_bps hf
  obtain ⟨v_11, z_10, hz_10, hf⟩ := hf
  refine g_goi (g_rV (As := [.int i1]) (rest := [.ref a0]) ⟨hx, hb, hml, hown, hts⟩ (mForms_kindOf l D A n _ _ a_8 i1 _ hz_10) (cwV 1 hts (gi_V kw_502 kw_503 kw_504 kw_5 kw_505) rfl rfl rfl ⟨rfl, hdForms_kindOf⟩ ⟨Nat.le_of_ble_eq_true rfl, Nat.le_of_ble_eq_true rfl⟩) hK hW hS hA (ci := 7) (T := T_Forms) (N := 5) rfl hi_9 rfl hl.1 rfl (Nat.le_of_ble_eq_true rfl) dMain_rememberLeak_18 ⟨Nat.le_of_ble_eq_true rfl, Nat.le_of_ble_eq_true rfl⟩) hS (fun H locs hW hS => ?_)
  replace hf := g_bd hf
  obtain ⟨z_12, hz_12, hf⟩ := hf
  refine g_put hx hb hts in_Main ty_Main tyok_Main nm_Main hown hK hW hS (ci := 8) (C := "SecretRows") (T := T_Main) (N := 14) rfl (k := 12) (by decide) (hts _ kw_93) (fun _ h9 => h9) rfl (ty := .int) (by decide +kernel) rfl rfl hz_12 dMain_rememberLeak_21 (fun H locs hW hS => ?_)
  refine lv_aload_n hx hb dMain_rememberLeak_24 rfl (lv_at hl 0 rfl) ?_
  refine lv_aload_n hx hb dMain_rememberLeak_25 rfl (lv_at hl 0 rfl) ?_
  replace hf := g_bd hf
  obtain ⟨r_13, hr_13, hf⟩ := hf
  refine g_getR hx hb hts in_Main hown hK hW (ci := 8) (C := "SecretRows") (T := T_Main) (N := 14) rfl (k := 5) (by decide) (hts _ kw_86) (fun _ h9 => h9) hr_13 dMain_rememberLeak_26 ?_
  refine lv_iload_n hx hb dMain_rememberLeak_29 rfl (lv_at hl 1 rfl) ?_
  replace hf := g_bd hf
  obtain ⟨a_14, ea_14, hf⟩ := hf
  subst ea_14
  refine W.eq (g2 := F0 m 30 _ [.int i1, .ref a_14, .ref a0]) rfl ?_
  replace hf := g_bd hf
  obtain ⟨_, hi_15, hf⟩ := hf
  replace hf := g_bps hf
  obtain ⟨v_17, z_16, hz_16, hf⟩ := hf
  refine g_goi (g_rV (As := [.int i1]) (rest := [.ref a0]) ⟨hx, hb, hml, hown, hts⟩ (mForms_oldOf l D A n _ _ a_14 i1 _ hz_16) (cwV 1 hts (gi_V kw_506 kw_507 kw_508 kw_5 kw_509) rfl rfl rfl ⟨rfl, hdForms_oldOf⟩ ⟨Nat.le_of_ble_eq_true rfl, Nat.le_of_ble_eq_true rfl⟩) hK hW hS hA (ci := 7) (T := T_Forms) (N := 5) rfl hi_15 rfl hl.1 rfl (Nat.le_of_ble_eq_true rfl) dMain_rememberLeak_30 ⟨Nat.le_of_ble_eq_true rfl, Nat.le_of_ble_eq_true rfl⟩) hS (fun H locs hW hS => ?_)
  replace hf := g_bd hf
  obtain ⟨z_18, hz_18, hf⟩ := hf
  refine g_put hx hb hts in_Main ty_Main tyok_Main nm_Main hown hK hW hS (ci := 8) (C := "SecretRows") (T := T_Main) (N := 14) rfl (k := 13) (by decide) (hts _ kw_94) (fun _ h9 => h9) rfl (ty := .int) (by decide +kernel) rfl rfl hz_18 dMain_rememberLeak_33 (fun H locs hW hS => ?_)
  cases hf
  exact g_retv hx hb hr hlocks hW hS (Nat.le_of_ble_eq_true rfl) (Nat.le_of_ble_eq_true rfl) dMain_rememberLeak_36

def fMain_scan_L8 (n : Nat) : Nat → Nat → Int32 → Int32 → gS → Option (Int32 × gS)
  | 0, _, _, _, _ => none
  | k + 1, a0b, i1b, i2b, z =>
    (g_fR z a0b 8 4).bind fun r_3 =>
    r_3.bind fun a_4 =>
    (g_is z a_4 0).bind fun _ =>
    g_bp (fText_length n a_4 z) fun v_7 z_6 =>
    if v_7 ≤ i2b then (
    (g_fR z_6 a0b 8 4).bind fun r_9 =>
    r_9.bind fun a_10 =>
    (g_is z_6 a_10 0).bind fun _ =>
    (fText_clear n a_10 z_6).bind fun z_12 =>
    some (i1b, z_12))
    else (
    if i1b = (-1) then (
    (g_fR z_6 a0b 8 5).bind fun r_18 =>
    (g_fR z_6 a0b 8 4).bind fun r_19 =>
    r_19.bind fun a_20 =>
    r_18.bind fun a_21 =>
    (g_is z_6 a_21 7).bind fun _ =>
    g_bp (fForms_longestWhole n a_21 a_20 i2b z_6) fun v_24 z_23 =>
    if v_24 = (-1) then (
    fMain_scan_L8 n k a0b i1b (i2b + 1) z_23)
    else (
    (g_is z_23 a0b 8).bind fun _ =>
    (fMain_rememberLeak n a0b v_24 z_23).bind fun z_27 =>
    fMain_scan_L8 n k a0b i2b (i2b + 1) z_27))
    else (
    (g_fR z_6 a0b 8 4).bind fun r_14 =>
    r_14.bind fun a_15 =>
    (g_is z_6 a_15 0).bind fun _ =>
    (fText_clear n a_15 z_6).bind fun z_17 =>
    some (i1b, z_17)))
set_option maxHeartbeats 4000000 in
set_option maxRecDepth 100000 in
theorem bMain_scan_8 {p : Program} {l : Launch} {e : Env} {s : State} {m : MethodId} {args : Array Value} {below : List Frame} {meth : Method} {c : Code} {D : va_G} {A : Nat → Prop} (C : g_C p s m meth c args cMain_scan 4 (some .int) "SecretRows" gW D vwCl gNN gOO A) (n : Nat) {r : Int32} {z' : gS} : ∀ k : Nat, ∀ (a0b : Nat) (i1b : Int32) (i2b : Int32) (z : gS) (H : Heap) (locs : List Loc) (ls : Array Slot), fMain_scan_L8 n k a0b i1b i2b z = some (r, z') → g_W D vwCl A z s H → va_S A s.heap H locs → lv_has ls 4 [(0, .ref a0b), (1, .int i1b), (2, .int i2b)] → W p l e (headSpec wsMain_scan ({ frames := 3, cells := 0, slots := 0, locals := 72 })).room s m args below meth c H locs 0 0 (MQ below (g_Qi D vwCl A r z') args s 0 0 A) (F0 m 8 ls []) := by
  obtain ⟨hx, hb, hr, hml, hown, hts, hlocks, hK, hA⟩ := id C
  intro k
  induction k with
  | zero =>
    intro a0b i1b i2b z H locs ls hf
    have hf : (none : Option (Int32 × gS)) = some _ := hf
    cases hf
  | succ k ih =>
    intro a0b i1b i2b z H locs ls hf hW hS hl
    rw [fMain_scan_L8] at hf
    refine lv_iload_n hx hb dMain_scan_8 rfl (lv_at hl 2 rfl) ?_
    refine lv_aload_n hx hb dMain_scan_9 rfl (lv_at hl 0 rfl) ?_
    replace hf := g_bd hf
    obtain ⟨r_3, hr_3, hf⟩ := hf
    refine g_getR hx hb hts in_Main hown hK hW (ci := 8) (C := "SecretRows") (T := T_Main) (N := 14) rfl (k := 4) (by decide) (hts _ kw_85) (fun _ h9 => h9) hr_3 dMain_scan_10 ?_
    replace hf := g_bd hf
    obtain ⟨a_4, ea_4, hf⟩ := hf
    subst ea_4
    refine W.eq (g2 := F0 m 13 _ [.ref a_4, .int i2b]) rfl ?_
    replace hf := g_bd hf
    obtain ⟨_, hi_5, hf⟩ := hf
    replace hf := g_bps hf
    obtain ⟨v_7, z_6, hz_6, hf⟩ := hf
    refine g_goi (g_rV (As := []) (rest := [.int i2b]) ⟨hx, hb, hml, hown, hts⟩ (mText_length l D A n _ _ a_4 _ hz_6) (cwV 0 hts (gi_V kw_183 kw_184 kw_185 kw_3 kw_186) rfl rfl rfl ⟨rfl, hdText_length⟩ ⟨Nat.le_of_ble_eq_true rfl, Nat.le_of_ble_eq_true rfl⟩) hK hW hS hA (ci := 0) (T := T_Text) (N := 2) rfl hi_5 rfl hl.1 rfl (Nat.le_of_ble_eq_true rfl) dMain_scan_13 ⟨Nat.le_of_ble_eq_true rfl, Nat.le_of_ble_eq_true rfl⟩) hS (fun H locs hW hS => ?_)
    refine lv_icmp_ge (tgt := 55) hx hb dMain_scan_16 (by decide) (fun c_8 => ?_) (fun c_8 => ?_)
    · replace hf := g_it c_8 hf
      refine lv_aload_n hx hb dMain_scan_55 rfl (lv_at hl 0 rfl) ?_
      replace hf := g_bd hf
      obtain ⟨r_9, hr_9, hf⟩ := hf
      refine g_getR hx hb hts in_Main hown hK hW (ci := 8) (C := "SecretRows") (T := T_Main) (N := 14) rfl (k := 4) (by decide) (hts _ kw_85) (fun _ h9 => h9) hr_9 dMain_scan_56 ?_
      replace hf := g_bd hf
      obtain ⟨a_10, ea_10, hf⟩ := hf
      subst ea_10
      refine W.eq (g2 := F0 m 59 _ [.ref a_10]) rfl ?_
      replace hf := g_bd hf
      obtain ⟨_, hi_11, hf⟩ := hf
      replace hf := g_bd hf
      obtain ⟨z_12, hz_12, hf⟩ := hf
      refine g_gov (g_rV (As := []) (rest := []) ⟨hx, hb, hml, hown, hts⟩ (mText_clear l D A n _ _ a_10 hz_12) (cwV 0 hts (gi_V kw_262 kw_263 kw_264 kw_3 kw_265) rfl rfl rfl ⟨rfl, hdText_clear⟩ ⟨Nat.le_of_ble_eq_true rfl, Nat.le_of_ble_eq_true rfl⟩) hK hW hS hA (ci := 0) (T := T_Text) (N := 2) rfl hi_11 rfl hl.1 rfl (Nat.le_of_ble_eq_true rfl) dMain_scan_59 ⟨Nat.le_of_ble_eq_true rfl, Nat.le_of_ble_eq_true rfl⟩) hS (fun H locs hW hS => ?_)
      refine lv_iload_n hx hb dMain_scan_62 rfl (lv_at hl 1 rfl) ?_
      cases hf
      exact g_reti hx hb hr hlocks hW hS (Nat.le_of_ble_eq_true rfl) (Nat.le_of_ble_eq_true rfl) dMain_scan_63
    · replace hf := g_if c_8 hf
      refine lv_iload_n hx hb dMain_scan_19 rfl (lv_at hl 1 rfl) ?_
      refine lv_iconst (v := (-1)) hx hb dMain_scan_20 (by decide) ?_
      refine lv_icmp_ne (tgt := 55) hx hb dMain_scan_21 (by decide) (fun c_13 => ?_) (fun c_13 => ?_)
      · replace hf := g_if c_13 hf
        refine lv_aload_n hx hb dMain_scan_55 rfl (lv_at hl 0 rfl) ?_
        replace hf := g_bd hf
        obtain ⟨r_14, hr_14, hf⟩ := hf
        refine g_getR hx hb hts in_Main hown hK hW (ci := 8) (C := "SecretRows") (T := T_Main) (N := 14) rfl (k := 4) (by decide) (hts _ kw_85) (fun _ h9 => h9) hr_14 dMain_scan_56 ?_
        replace hf := g_bd hf
        obtain ⟨a_15, ea_15, hf⟩ := hf
        subst ea_15
        refine W.eq (g2 := F0 m 59 _ [.ref a_15]) rfl ?_
        replace hf := g_bd hf
        obtain ⟨_, hi_16, hf⟩ := hf
        replace hf := g_bd hf
        obtain ⟨z_17, hz_17, hf⟩ := hf
        refine g_gov (g_rV (As := []) (rest := []) ⟨hx, hb, hml, hown, hts⟩ (mText_clear l D A n _ _ a_15 hz_17) (cwV 0 hts (gi_V kw_262 kw_263 kw_264 kw_3 kw_265) rfl rfl rfl ⟨rfl, hdText_clear⟩ ⟨Nat.le_of_ble_eq_true rfl, Nat.le_of_ble_eq_true rfl⟩) hK hW hS hA (ci := 0) (T := T_Text) (N := 2) rfl hi_16 rfl hl.1 rfl (Nat.le_of_ble_eq_true rfl) dMain_scan_59 ⟨Nat.le_of_ble_eq_true rfl, Nat.le_of_ble_eq_true rfl⟩) hS (fun H locs hW hS => ?_)
        refine lv_iload_n hx hb dMain_scan_62 rfl (lv_at hl 1 rfl) ?_
        cases hf
        exact g_reti hx hb hr hlocks hW hS (Nat.le_of_ble_eq_true rfl) (Nat.le_of_ble_eq_true rfl) dMain_scan_63
      · replace hf := g_it c_13 hf
        refine lv_aload_n hx hb dMain_scan_24 rfl (lv_at hl 0 rfl) ?_
        replace hf := g_bd hf
        obtain ⟨r_18, hr_18, hf⟩ := hf
        refine g_getR hx hb hts in_Main hown hK hW (ci := 8) (C := "SecretRows") (T := T_Main) (N := 14) rfl (k := 5) (by decide) (hts _ kw_86) (fun _ h9 => h9) hr_18 dMain_scan_25 ?_
        refine lv_aload_n hx hb dMain_scan_28 rfl (lv_at hl 0 rfl) ?_
        replace hf := g_bd hf
        obtain ⟨r_19, hr_19, hf⟩ := hf
        refine g_getR hx hb hts in_Main hown hK hW (ci := 8) (C := "SecretRows") (T := T_Main) (N := 14) rfl (k := 4) (by decide) (hts _ kw_85) (fun _ h9 => h9) hr_19 dMain_scan_29 ?_
        refine lv_iload_n hx hb dMain_scan_32 rfl (lv_at hl 2 rfl) ?_
        replace hf := g_bd hf
        obtain ⟨a_20, ea_20, hf⟩ := hf
        subst ea_20
        refine W.eq (g2 := F0 m 33 _ [.int i2b, .ref a_20, va_rf r_18]) rfl ?_
        replace hf := g_bd hf
        obtain ⟨a_21, ea_21, hf⟩ := hf
        subst ea_21
        refine W.eq (g2 := F0 m 33 _ [.int i2b, .ref a_20, .ref a_21]) rfl ?_
        replace hf := g_bd hf
        obtain ⟨_, hi_22, hf⟩ := hf
        replace hf := g_bps hf
        obtain ⟨v_24, z_23, hz_23, hf⟩ := hf
        refine g_goi (g_rV (As := [.ref a_20, .int i2b]) (rest := []) ⟨hx, hb, hml, hown, hts⟩ (mForms_longestWhole l D A n _ _ a_21 a_20 i2b _ hz_23) (cwV 2 hts (gi_V kw_493 kw_426 kw_427 kw_5 kw_428) rfl rfl rfl ⟨rfl, hdForms_longestWhole⟩ ⟨Nat.le_of_ble_eq_true rfl, Nat.le_of_ble_eq_true rfl⟩) hK hW hS hA (ci := 7) (T := T_Forms) (N := 5) rfl hi_22 rfl hl.1 rfl (Nat.le_of_ble_eq_true rfl) dMain_scan_33 ⟨Nat.le_of_ble_eq_true rfl, Nat.le_of_ble_eq_true rfl⟩) hS (fun H locs hW hS => ?_)
        refine lv_istore_n (lv' := [(3, .int v_24), (0, .ref a0b), (1, .int i1b), (2, .int i2b)]) hx hb dMain_scan_36 rfl hl (by decide) rfl (fun _ hl1 => ?_)
        clear hl
        have hl := hl1
        clear hl1
        refine lv_iload_n hx hb dMain_scan_37 rfl (lv_at hl 0 rfl) ?_
        refine lv_iconst (v := (-1)) hx hb dMain_scan_38 (by decide) ?_
        refine lv_icmp_eq (tgt := 49) hx hb dMain_scan_39 (by decide) (fun c_25 => ?_) (fun c_25 => ?_)
        · replace hf := g_it c_25 hf
          refine lv_iinc (v := (i2b + 1)) (lv' := [(2, .int (i2b + 1)), (3, .int v_24), (0, .ref a0b), (1, .int i1b)]) hx hb dMain_scan_49 hl (k := 3) rfl rfl (by decide) rfl (fun _ hl1 => ?_)
          clear hl
          have hl := hl1
          clear hl1
          refine lv_goto (tgt := 8) hx hb dMain_scan_52 (by decide) ?_
          exact ih a0b i1b (i2b + 1) _ _ _ _ hf hW hS (lv_sub hl [2, 3, 0] rfl)
        · replace hf := g_if c_25 hf
          refine lv_iload_n hx hb dMain_scan_42 rfl (lv_at hl 3 rfl) ?_
          refine lv_istore_n (lv' := [(1, .int i2b), (3, .int v_24), (0, .ref a0b), (2, .int i2b)]) hx hb dMain_scan_43 rfl hl (by decide) rfl (fun _ hl1 => ?_)
          clear hl
          have hl := hl1
          clear hl1
          refine lv_aload_n hx hb dMain_scan_44 rfl (lv_at hl 2 rfl) ?_
          refine lv_iload_n hx hb dMain_scan_45 rfl (lv_at hl 1 rfl) ?_
          replace hf := g_bd hf
          obtain ⟨_, hi_26, hf⟩ := hf
          replace hf := g_bd hf
          obtain ⟨z_27, hz_27, hf⟩ := hf
          refine g_gov (g_rV (As := [.int v_24]) (rest := []) ⟨hx, hb, hml, hown, hts⟩ (mMain_rememberLeak l D A n _ _ a0b v_24 hz_27) (cwV 1 hts (gi_V kw_494 kw_496 ks_Main_rememberLeak kw_1 kw_497) rfl rfl rfl ⟨rfl, hdMain_rememberLeak⟩ ⟨Nat.le_of_ble_eq_true rfl, Nat.le_of_ble_eq_true rfl⟩) hK hW hS hA (ci := 8) (T := T_Main) (N := 14) rfl hi_26 rfl hl.1 rfl (Nat.le_of_ble_eq_true rfl) dMain_scan_46 ⟨Nat.le_of_ble_eq_true rfl, Nat.le_of_ble_eq_true rfl⟩) hS (fun H locs hW hS => ?_)
          refine lv_iinc (v := (i2b + 1)) (lv' := [(2, .int (i2b + 1)), (1, .int i2b), (3, .int v_24), (0, .ref a0b)]) hx hb dMain_scan_49 hl (k := 3) rfl rfl (by decide) rfl (fun _ hl1 => ?_)
          clear hl
          have hl := hl1
          clear hl1
          refine lv_goto (tgt := 8) hx hb dMain_scan_52 (by decide) ?_
          exact ih a0b i2b (i2b + 1) _ _ _ _ hf hW hS (lv_sub hl [3, 1, 0] rfl)
def fMain_scan (n : Nat) (a0 : Nat) (z : gS) : Option (Int32 × gS) :=
    (g_is z a0 8).bind fun _ =>
    (fMain_gatherForms n a0 z).bind fun z_2 =>
    fMain_scan_L8 n n a0 (-1) 0 z_2
set_option maxHeartbeats 4000000 in
set_option maxRecDepth 100000 in
theorem mMain_scan (l : Launch) (D : va_G) (A : Nat → Prop) (n : Nat) (z z' : gS) (a0 : Nat) (r : Int32) (hf : fMain_scan n a0 z = some (r, z')) : Met l yMain_scan wsMain_scan ({ frames := 3, cells := 0, slots := 0, locals := 72 }) (g_P D vwCl gNN gOO A z [.ref a0]) (g_Qi D vwCl A r z') 0 0 A := by
  refine Met.ofW (cc := cMain_scan) (maxL := 4) (ret := (some .int)) (by decide) rfl ?_
  intro p e s m args below meth c s₁ B hml hv
  obtain ⟨rfl, hW, hK, hA0⟩ := hv
  have C : g_C p s m meth c _ cMain_scan 4 (some .int) "SecretRows" gW D vwCl gNN gOO A := ⟨B.exec, B.bytes, B.returns, hml, findClass_of_methodNamed B.named, fun w hw => atoms_spec (ws := wsMain_scan) B.pre w (List.mem_cons_of_mem _ hw), B.notSynchronized, hK, fun q hq => hA0 q (by rw [← hW.1]; exact hq)⟩
  have hS : va_S A s.heap s.heap [] := va_S.rf
  have hl := lv_entry ([.ref a0]) (n := 4) (Nat.le_of_ble_eq_true rfl)
  rw [lg_entry_eq]
  generalize (lg_sl ([.ref a0]) ++ List.replicate (4 - (lg_sl ([.ref a0])).length) Slot.unset).toArray = ls at hl ⊢
  have hl : lv_has ls 4 [(0, .ref a0)] := hl
  obtain ⟨hx, hb, hr, hml, hown, hts, hlocks, hK, hA⟩ := id C
  unfold fMain_scan at hf
  refine lv_aload_n hx hb dMain_scan_0 rfl (lv_at hl 0 rfl) ?_
  replace hf := g_bd hf
  obtain ⟨_, hi_1, hf⟩ := hf
  replace hf := g_bd hf
  obtain ⟨z_2, hz_2, hf⟩ := hf
  refine g_gov (g_rV (As := []) (rest := []) ⟨hx, hb, hml, hown, hts⟩ (mMain_gatherForms l D A n _ _ a0 hz_2) (cwV 0 hts (gi_V kw_386 kw_388 ks_Main_gatherForms kw_1 kw_389) rfl rfl rfl ⟨rfl, hdMain_gatherForms⟩ ⟨Nat.le_of_ble_eq_true rfl, Nat.le_of_ble_eq_true rfl⟩) hK hW hS hA (ci := 8) (T := T_Main) (N := 14) rfl hi_1 rfl hl.1 rfl (Nat.le_of_ble_eq_true rfl) dMain_scan_1 ⟨Nat.le_of_ble_eq_true rfl, Nat.le_of_ble_eq_true rfl⟩) hS (fun H locs hW hS => ?_)
  refine lv_iconst (v := (-1)) hx hb dMain_scan_4 (by decide) ?_
  refine lv_istore_n (lv' := [(1, .int (-1)), (0, .ref a0)]) hx hb dMain_scan_5 rfl hl (by decide) rfl (fun _ hl1 => ?_)
  clear hl
  have hl := hl1
  clear hl1
  refine lv_iconst (v := 0) hx hb dMain_scan_6 (by decide) ?_
  refine lv_istore_n (lv' := [(2, .int 0), (1, .int (-1)), (0, .ref a0)]) hx hb dMain_scan_7 rfl hl (by decide) rfl (fun _ hl1 => ?_)
  clear hl
  have hl := hl1
  clear hl1
  exact bMain_scan_8 C n n a0 (-1) 0 _ _ _ _ hf hW hS (lv_sub hl [2, 1, 0] rfl)
