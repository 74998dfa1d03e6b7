theorem dAudit_init_0 : decode cAudit_init 0 = .ok (.aload_n 0, 1) := by decide +kernel
theorem dAudit_init_1 : decode cAudit_init 1 = .ok (.invokespecial 3, 3) := by decide +kernel
theorem dAudit_init_4 : decode cAudit_init 4 = .ok (.aload_n 0, 1) := by decide +kernel
theorem dAudit_init_5 : decode cAudit_init 5 = .ok (.sipush 600, 3) := by decide +kernel
theorem dAudit_init_8 : decode cAudit_init 8 = .ok (.newarray .int, 2) := by decide +kernel
theorem dAudit_init_10 : decode cAudit_init 10 = .ok (.putfield 9, 3) := by decide +kernel
theorem dAudit_init_13 : decode cAudit_init 13 = .ok (.return_, 1) := by decide +kernel
theorem dText_init_0 : decode cText_init 0 = .ok (.aload_n 0, 1) := by decide +kernel
theorem dText_init_1 : decode cText_init 1 = .ok (.invokespecial 3, 3) := by decide +kernel
theorem dText_init_4 : decode cText_init 4 = .ok (.aload_n 0, 1) := by decide +kernel
theorem dText_init_5 : decode cText_init 5 = .ok (.iload_n 1, 1) := by decide +kernel
theorem dText_init_6 : decode cText_init 6 = .ok (.iconst 0, 1) := by decide +kernel
theorem dText_init_7 : decode cText_init 7 = .ok (.invokestatic 9, 3) := by decide +kernel
theorem dText_init_10 : decode cText_init 10 = .ok (.newarray .char, 2) := by decide +kernel
theorem dText_init_12 : decode cText_init 12 = .ok (.putfield 15, 3) := by decide +kernel
theorem dText_init_15 : decode cText_init 15 = .ok (.return_, 1) := by decide +kernel
theorem dForms_init_0 : decode cForms_init 0 = .ok (.aload_n 0, 1) := by decide +kernel
theorem dForms_init_1 : decode cForms_init 1 = .ok (.invokespecial 3, 3) := by decide +kernel
theorem dForms_init_4 : decode cForms_init 4 = .ok (.aload_n 0, 1) := by decide +kernel
theorem dForms_init_5 : decode cForms_init 5 = .ok (.bipush 60, 2) := by decide +kernel
theorem dForms_init_7 : decode cForms_init 7 = .ok (.anewarray 9, 3) := by decide +kernel
theorem dForms_init_10 : decode cForms_init 10 = .ok (.putfield 11, 3) := by decide +kernel
theorem dForms_init_13 : decode cForms_init 13 = .ok (.aload_n 0, 1) := by decide +kernel
theorem dForms_init_14 : decode cForms_init 14 = .ok (.bipush 60, 2) := by decide +kernel
theorem dForms_init_16 : decode cForms_init 16 = .ok (.newarray .int, 2) := by decide +kernel
theorem dForms_init_18 : decode cForms_init 18 = .ok (.putfield 17, 3) := by decide +kernel
theorem dForms_init_21 : decode cForms_init 21 = .ok (.aload_n 0, 1) := by decide +kernel
theorem dForms_init_22 : decode cForms_init 22 = .ok (.bipush 60, 2) := by decide +kernel
theorem dForms_init_24 : decode cForms_init 24 = .ok (.newarray .int, 2) := by decide +kernel
theorem dForms_init_26 : decode cForms_init 26 = .ok (.putfield 21, 3) := by decide +kernel
theorem dForms_init_29 : decode cForms_init 29 = .ok (.aload_n 0, 1) := by decide +kernel
theorem dForms_init_30 : decode cForms_init 30 = .ok (.bipush 60, 2) := by decide +kernel
theorem dForms_init_32 : decode cForms_init 32 = .ok (.newarray .int, 2) := by decide +kernel
theorem dForms_init_34 : decode cForms_init 34 = .ok (.putfield 24, 3) := by decide +kernel
theorem dForms_init_37 : decode cForms_init 37 = .ok (.return_, 1) := by decide +kernel
theorem dMain_init_0 : decode cMain_init 0 = .ok (.aload_n 0, 1) := by decide +kernel
theorem dMain_init_1 : decode cMain_init 1 = .ok (.invokespecial 3, 3) := by decide +kernel
theorem dMain_init_4 : decode cMain_init 4 = .ok (.aload_n 0, 1) := by decide +kernel
theorem dMain_init_5 : decode cMain_init 5 = .ok (.bipush 10, 2) := by decide +kernel
theorem dMain_init_7 : decode cMain_init 7 = .ok (.anewarray 9, 3) := by decide +kernel
theorem dMain_init_10 : decode cMain_init 10 = .ok (.putfield 11, 3) := by decide +kernel
theorem dMain_init_13 : decode cMain_init 13 = .ok (.aload_n 0, 1) := by decide +kernel
theorem dMain_init_14 : decode cMain_init 14 = .ok (.bipush 12, 2) := by decide +kernel
theorem dMain_init_16 : decode cMain_init 16 = .ok (.anewarray 15, 3) := by decide +kernel
theorem dMain_init_19 : decode cMain_init 19 = .ok (.putfield 17, 3) := by decide +kernel
theorem dMain_init_22 : decode cMain_init 22 = .ok (.aload_n 0, 1) := by decide +kernel
theorem dMain_init_23 : decode cMain_init 23 = .ok (.bipush 20, 2) := by decide +kernel
theorem dMain_init_25 : decode cMain_init 25 = .ok (.anewarray 21, 3) := by decide +kernel
theorem dMain_init_28 : decode cMain_init 28 = .ok (.putfield 23, 3) := by decide +kernel
theorem dMain_init_31 : decode cMain_init 31 = .ok (.aload_n 0, 1) := by decide +kernel
theorem dMain_init_32 : decode cMain_init 32 = .ok (.new 27, 3) := by decide +kernel
theorem dMain_init_35 : decode cMain_init 35 = .ok (.dup, 1) := by decide +kernel
theorem dMain_init_36 : decode cMain_init 36 = .ok (.invokespecial 29, 3) := by decide +kernel
theorem dMain_init_39 : decode cMain_init 39 = .ok (.putfield 30, 3) := by decide +kernel
theorem dMain_init_42 : decode cMain_init 42 = .ok (.aload_n 0, 1) := by decide +kernel
theorem dMain_init_43 : decode cMain_init 43 = .ok (.new 34, 3) := by decide +kernel
theorem dMain_init_46 : decode cMain_init 46 = .ok (.dup, 1) := by decide +kernel
theorem dMain_init_47 : decode cMain_init 47 = .ok (.sipush 300, 3) := by decide +kernel
theorem dMain_init_50 : decode cMain_init 50 = .ok (.invokespecial 36, 3) := by decide +kernel
theorem dMain_init_53 : decode cMain_init 53 = .ok (.putfield 39, 3) := by decide +kernel
theorem dMain_init_56 : decode cMain_init 56 = .ok (.aload_n 0, 1) := by decide +kernel
theorem dMain_init_57 : decode cMain_init 57 = .ok (.new 43, 3) := by decide +kernel
theorem dMain_init_60 : decode cMain_init 60 = .ok (.dup, 1) := by decide +kernel
theorem dMain_init_61 : decode cMain_init 61 = .ok (.invokespecial 45, 3) := by decide +kernel
theorem dMain_init_64 : decode cMain_init 64 = .ok (.putfield 46, 3) := by decide +kernel
theorem dMain_init_67 : decode cMain_init 67 = .ok (.aload_n 0, 1) := by decide +kernel
theorem dMain_init_68 : decode cMain_init 68 = .ok (.iconst (-1), 1) := by decide +kernel
theorem dMain_init_69 : decode cMain_init 69 = .ok (.putfield 50, 3) := by decide +kernel
theorem dMain_init_72 : decode cMain_init 72 = .ok (.aload_n 0, 1) := by decide +kernel
theorem dMain_init_73 : decode cMain_init 73 = .ok (.iconst (-1), 1) := by decide +kernel
theorem dMain_init_74 : decode cMain_init 74 = .ok (.putfield 54, 3) := by decide +kernel
theorem dMain_init_77 : decode cMain_init 77 = .ok (.aload_n 0, 1) := by decide +kernel
theorem dMain_init_78 : decode cMain_init 78 = .ok (.iconst (-1), 1) := by decide +kernel
theorem dMain_init_79 : decode cMain_init 79 = .ok (.putfield 57, 3) := by decide +kernel
theorem dMain_init_82 : decode cMain_init 82 = .ok (.return_, 1) := by decide +kernel
theorem dSecret_init_0 : decode cSecret_init 0 = .ok (.aload_n 0, 1) := by decide +kernel
theorem dSecret_init_1 : decode cSecret_init 1 = .ok (.invokespecial 1, 3) := by decide +kernel
theorem dSecret_init_4 : decode cSecret_init 4 = .ok (.aload_n 0, 1) := by decide +kernel
theorem dSecret_init_5 : decode cSecret_init 5 = .ok (.iload_n 1, 1) := by decide +kernel
theorem dSecret_init_6 : decode cSecret_init 6 = .ok (.putfield 7, 3) := by decide +kernel
theorem dSecret_init_9 : decode cSecret_init 9 = .ok (.aload_n 0, 1) := by decide +kernel
theorem dSecret_init_10 : decode cSecret_init 10 = .ok (.iload_n 2, 1) := by decide +kernel
theorem dSecret_init_11 : decode cSecret_init 11 = .ok (.putfield 13, 3) := by decide +kernel
theorem dSecret_init_14 : decode cSecret_init 14 = .ok (.aload_n 0, 1) := by decide +kernel
theorem dSecret_init_15 : decode cSecret_init 15 = .ok (.iload_n 3, 1) := by decide +kernel
theorem dSecret_init_16 : decode cSecret_init 16 = .ok (.putfield 16, 3) := by decide +kernel
theorem dSecret_init_19 : decode cSecret_init 19 = .ok (.return_, 1) := by decide +kernel
theorem dMain_secret_0 : decode cMain_secret 0 = .ok (.aload_n 0, 1) := by decide +kernel
theorem dMain_secret_1 : decode cMain_secret 1 = .ok (.getfield 60, 3) := by decide +kernel
theorem dMain_secret_4 : decode cMain_secret 4 = .ok (.aload_n 0, 1) := by decide +kernel
theorem dMain_secret_5 : decode cMain_secret 5 = .ok (.getfield 11, 3) := by decide +kernel
theorem dMain_secret_8 : decode cMain_secret 8 = .ok (.arraylength, 1) := by decide +kernel
theorem dMain_secret_9 : decode cMain_secret 9 = .ok (.if_icmp .lt 5, 3) := by decide +kernel
theorem dMain_secret_12 : decode cMain_secret 12 = .ok (.iconst (-1), 1) := by decide +kernel
theorem dMain_secret_13 : decode cMain_secret 13 = .ok (.ireturn, 1) := by decide +kernel
theorem dMain_secret_14 : decode cMain_secret 14 = .ok (.aload_n 0, 1) := by decide +kernel
theorem dMain_secret_15 : decode cMain_secret 15 = .ok (.getfield 11, 3) := by decide +kernel
theorem dMain_secret_18 : decode cMain_secret 18 = .ok (.aload_n 0, 1) := by decide +kernel
theorem dMain_secret_19 : decode cMain_secret 19 = .ok (.getfield 60, 3) := by decide +kernel
theorem dMain_secret_22 : decode cMain_secret 22 = .ok (.new 9, 3) := by decide +kernel
theorem dMain_secret_25 : decode cMain_secret 25 = .ok (.dup, 1) := by decide +kernel
theorem dMain_secret_26 : decode cMain_secret 26 = .ok (.iload_n 1, 1) := by decide +kernel
theorem dMain_secret_27 : decode cMain_secret 27 = .ok (.iload_n 2, 1) := by decide +kernel
theorem dMain_secret_28 : decode cMain_secret 28 = .ok (.iload_n 3, 1) := by decide +kernel
theorem dMain_secret_29 : decode cMain_secret 29 = .ok (.invokespecial 63, 3) := by decide +kernel
theorem dMain_secret_32 : decode cMain_secret 32 = .ok (.aastore, 1) := by decide +kernel
theorem dMain_secret_33 : decode cMain_secret 33 = .ok (.aload_n 0, 1) := by decide +kernel
theorem dMain_secret_34 : decode cMain_secret 34 = .ok (.dup, 1) := by decide +kernel
theorem dMain_secret_35 : decode cMain_secret 35 = .ok (.getfield 60, 3) := by decide +kernel
theorem dMain_secret_38 : decode cMain_secret 38 = .ok (.iconst 1, 1) := by decide +kernel
theorem dMain_secret_39 : decode cMain_secret 39 = .ok (.iadd, 1) := by decide +kernel
theorem dMain_secret_40 : decode cMain_secret 40 = .ok (.putfield 60, 3) := by decide +kernel
theorem dMain_secret_43 : decode cMain_secret 43 = .ok (.aload_n 0, 1) := by decide +kernel
theorem dMain_secret_44 : decode cMain_secret 44 = .ok (.getfield 60, 3) := by decide +kernel
theorem dMain_secret_47 : decode cMain_secret 47 = .ok (.iconst 1, 1) := by decide +kernel
theorem dMain_secret_48 : decode cMain_secret 48 = .ok (.isub, 1) := by decide +kernel
theorem dMain_secret_49 : decode cMain_secret 49 = .ok (.ireturn, 1) := by decide +kernel
theorem dText_add_0 : decode cText_add 0 = .ok (.aload_n 0, 1) := by decide +kernel
theorem dText_add_1 : decode cText_add 1 = .ok (.getfield 21, 3) := by decide +kernel
theorem dText_add_4 : decode cText_add 4 = .ok (.aload_n 0, 1) := by decide +kernel
theorem dText_add_5 : decode cText_add 5 = .ok (.getfield 15, 3) := by decide +kernel
theorem dText_add_8 : decode cText_add 8 = .ok (.arraylength, 1) := by decide +kernel
theorem dText_add_9 : decode cText_add 9 = .ok (.if_icmp .lt 5, 3) := by decide +kernel
theorem dText_add_12 : decode cText_add 12 = .ok (.iconst 0, 1) := by decide +kernel
theorem dText_add_13 : decode cText_add 13 = .ok (.ireturn, 1) := by decide +kernel
theorem dText_add_14 : decode cText_add 14 = .ok (.aload_n 0, 1) := by decide +kernel
theorem dText_add_15 : decode cText_add 15 = .ok (.getfield 15, 3) := by decide +kernel
theorem dText_add_18 : decode cText_add 18 = .ok (.aload_n 0, 1) := by decide +kernel
theorem dText_add_19 : decode cText_add 19 = .ok (.getfield 21, 3) := by decide +kernel
theorem dText_add_22 : decode cText_add 22 = .ok (.iload_n 1, 1) := by decide +kernel
theorem dText_add_23 : decode cText_add 23 = .ok (.i2c, 1) := by decide +kernel
theorem dText_add_24 : decode cText_add 24 = .ok (.castore, 1) := by decide +kernel
theorem dText_add_25 : decode cText_add 25 = .ok (.aload_n 0, 1) := by decide +kernel
theorem dText_add_26 : decode cText_add 26 = .ok (.dup, 1) := by decide +kernel
theorem dText_add_27 : decode cText_add 27 = .ok (.getfield 21, 3) := by decide +kernel
theorem dText_add_30 : decode cText_add 30 = .ok (.iconst 1, 1) := by decide +kernel
theorem dText_add_31 : decode cText_add 31 = .ok (.iadd, 1) := by decide +kernel
theorem dText_add_32 : decode cText_add 32 = .ok (.putfield 21, 3) := by decide +kernel
theorem dText_add_35 : decode cText_add 35 = .ok (.iconst 1, 1) := by decide +kernel
theorem dText_add_36 : decode cText_add 36 = .ok (.ireturn, 1) := by decide +kernel
theorem dMain_type_0 : decode cMain_type 0 = .ok (.iload_n 1, 1) := by decide +kernel
theorem dMain_type_1 : decode cMain_type 1 = .ok (.bipush 32, 2) := by decide +kernel
theorem dMain_type_3 : decode cMain_type 3 = .ok (.if_icmp .lt 24, 3) := by decide +kernel
theorem dMain_type_6 : decode cMain_type 6 = .ok (.iload_n 1, 1) := by decide +kernel
theorem dMain_type_7 : decode cMain_type 7 = .ok (.bipush 126, 2) := by decide +kernel
theorem dMain_type_9 : decode cMain_type 9 = .ok (.if_icmp .gt 18, 3) := by decide +kernel
theorem dMain_type_12 : decode cMain_type 12 = .ok (.aload_n 0, 1) := by decide +kernel
theorem dMain_type_13 : decode cMain_type 13 = .ok (.getfield 39, 3) := by decide +kernel
theorem dMain_type_16 : decode cMain_type 16 = .ok (.iload_n 1, 1) := by decide +kernel
theorem dMain_type_17 : decode cMain_type 17 = .ok (.invokevirtual 66, 3) := by decide +kernel
theorem dMain_type_20 : decode cMain_type 20 = .ok (.ifCond .eq 7, 3) := by decide +kernel
theorem dMain_type_23 : decode cMain_type 23 = .ok (.iconst 1, 1) := by decide +kernel
theorem dMain_type_24 : decode cMain_type 24 = .ok (.goto 4, 3) := by decide +kernel
theorem dMain_type_27 : decode cMain_type 27 = .ok (.iconst 0, 1) := by decide +kernel
theorem dMain_type_28 : decode cMain_type 28 = .ok (.ireturn, 1) := by decide +kernel
theorem dMain_findSecret_0 : decode cMain_findSecret 0 = .ok (.iload_n 1, 1) := by decide +kernel
theorem dMain_findSecret_1 : decode cMain_findSecret 1 = .ok (.ifCond .lt 20, 3) := by decide +kernel
theorem dMain_findSecret_4 : decode cMain_findSecret 4 = .ok (.iload_n 1, 1) := by decide +kernel
theorem dMain_findSecret_5 : decode cMain_findSecret 5 = .ok (.aload_n 0, 1) := by decide +kernel
theorem dMain_findSecret_6 : decode cMain_findSecret 6 = .ok (.getfield 60, 3) := by decide +kernel
theorem dMain_findSecret_9 : decode cMain_findSecret 9 = .ok (.if_icmp .ge 12, 3) := by decide +kernel
theorem dMain_findSecret_12 : decode cMain_findSecret 12 = .ok (.iload_n 1, 1) := by decide +kernel
theorem dMain_findSecret_13 : decode cMain_findSecret 13 = .ok (.aload_n 0, 1) := by decide +kernel
theorem dMain_findSecret_14 : decode cMain_findSecret 14 = .ok (.getfield 11, 3) := by decide +kernel
theorem dMain_findSecret_17 : decode cMain_findSecret 17 = .ok (.arraylength, 1) := by decide +kernel
theorem dMain_findSecret_18 : decode cMain_findSecret 18 = .ok (.if_icmp .lt 7, 3) := by decide +kernel
theorem dMain_findSecret_21 : decode cMain_findSecret 21 = .ok (.aconst_null, 1) := by decide +kernel
theorem dMain_findSecret_22 : decode cMain_findSecret 22 = .ok (.goto 9, 3) := by decide +kernel
theorem dMain_findSecret_25 : decode cMain_findSecret 25 = .ok (.aload_n 0, 1) := by decide +kernel
theorem dMain_findSecret_26 : decode cMain_findSecret 26 = .ok (.getfield 11, 3) := by decide +kernel
theorem dMain_findSecret_29 : decode cMain_findSecret 29 = .ok (.iload_n 1, 1) := by decide +kernel
theorem dMain_findSecret_30 : decode cMain_findSecret 30 = .ok (.aaload, 1) := by decide +kernel
theorem dMain_findSecret_31 : decode cMain_findSecret 31 = .ok (.areturn, 1) := by decide +kernel
theorem dText_length_0 : decode cText_length 0 = .ok (.aload_n 0, 1) := by decide +kernel
theorem dText_length_1 : decode cText_length 1 = .ok (.getfield 21, 3) := by decide +kernel
theorem dText_length_4 : decode cText_length 4 = .ok (.ireturn, 1) := by decide +kernel
theorem dText_at_0 : decode cText_at 0 = .ok (.iload_n 1, 1) := by decide +kernel
theorem dText_at_1 : decode cText_at 1 = .ok (.ifCond .lt 20, 3) := by decide +kernel
theorem dText_at_4 : decode cText_at 4 = .ok (.iload_n 1, 1) := by decide +kernel
theorem dText_at_5 : decode cText_at 5 = .ok (.aload_n 0, 1) := by decide +kernel
theorem dText_at_6 : decode cText_at 6 = .ok (.getfield 21, 3) := by decide +kernel
theorem dText_at_9 : decode cText_at 9 = .ok (.if_icmp .ge 12, 3) := by decide +kernel
theorem dText_at_12 : decode cText_at 12 = .ok (.iload_n 1, 1) := by decide +kernel
theorem dText_at_13 : decode cText_at 13 = .ok (.aload_n 0, 1) := by decide +kernel
theorem dText_at_14 : decode cText_at 14 = .ok (.getfield 15, 3) := by decide +kernel
theorem dText_at_17 : decode cText_at 17 = .ok (.arraylength, 1) := by decide +kernel
theorem dText_at_18 : decode cText_at 18 = .ok (.if_icmp .lt 7, 3) := by decide +kernel
theorem dText_at_21 : decode cText_at 21 = .ok (.iconst (-1), 1) := by decide +kernel
theorem dText_at_22 : decode cText_at 22 = .ok (.goto 9, 3) := by decide +kernel
theorem dText_at_25 : decode cText_at 25 = .ok (.aload_n 0, 1) := by decide +kernel
theorem dText_at_26 : decode cText_at 26 = .ok (.getfield 15, 3) := by decide +kernel
theorem dText_at_29 : decode cText_at 29 = .ok (.iload_n 1, 1) := by decide +kernel
theorem dText_at_30 : decode cText_at 30 = .ok (.caload, 1) := by decide +kernel
theorem dText_at_31 : decode cText_at 31 = .ok (.ireturn, 1) := by decide +kernel
theorem dText_has_0 : decode cText_has 0 = .ok (.iconst 0, 1) := by decide +kernel
theorem dText_has_1 : decode cText_has 1 = .ok (.istore_n 2, 1) := by decide +kernel
theorem dText_has_2 : decode cText_has 2 = .ok (.iload_n 2, 1) := by decide +kernel
theorem dText_has_3 : decode cText_has 3 = .ok (.aload_n 0, 1) := by decide +kernel
theorem dText_has_4 : decode cText_has 4 = .ok (.getfield 21, 3) := by decide +kernel
theorem dText_has_7 : decode cText_has 7 = .ok (.if_icmp .ge 20, 3) := by decide +kernel
theorem dText_has_10 : decode cText_has 10 = .ok (.aload_n 0, 1) := by decide +kernel
theorem dText_has_11 : decode cText_has 11 = .ok (.iload_n 2, 1) := by decide +kernel
theorem dText_has_12 : decode cText_has 12 = .ok (.invokevirtual 25, 3) := by decide +kernel
theorem dText_has_15 : decode cText_has 15 = .ok (.iload_n 1, 1) := by decide +kernel
theorem dText_has_16 : decode cText_has 16 = .ok (.if_icmp .ne 5, 3) := by decide +kernel
theorem dText_has_19 : decode cText_has 19 = .ok (.iconst 1, 1) := by decide +kernel
theorem dText_has_20 : decode cText_has 20 = .ok (.ireturn, 1) := by decide +kernel
theorem dText_has_21 : decode cText_has 21 = .ok (.iinc 2 1, 3) := by decide +kernel
theorem dText_has_24 : decode cText_has 24 = .ok (.goto (-22), 3) := by decide +kernel
theorem dText_has_27 : decode cText_has 27 = .ok (.iconst 0, 1) := by decide +kernel
theorem dText_has_28 : decode cText_has 28 = .ok (.ireturn, 1) := by decide +kernel
theorem dMain_tapeCanBeValue_0 : decode cMain_tapeCanBeValue 0 = .ok (.aload_n 0, 1) := by decide +kernel
theorem dMain_tapeCanBeValue_1 : decode cMain_tapeCanBeValue 1 = .ok (.getfield 39, 3) := by decide +kernel
theorem dMain_tapeCanBeValue_4 : decode cMain_tapeCanBeValue 4 = .ok (.invokevirtual 151, 3) := by decide +kernel
theorem dMain_tapeCanBeValue_7 : decode cMain_tapeCanBeValue 7 = .ok (.iconst 4, 1) := by decide +kernel
theorem dMain_tapeCanBeValue_8 : decode cMain_tapeCanBeValue 8 = .ok (.if_icmp .lt 31, 3) := by decide +kernel
theorem dMain_tapeCanBeValue_11 : decode cMain_tapeCanBeValue 11 = .ok (.aload_n 0, 1) := by decide +kernel
theorem dMain_tapeCanBeValue_12 : decode cMain_tapeCanBeValue 12 = .ok (.getfield 39, 3) := by decide +kernel
theorem dMain_tapeCanBeValue_15 : decode cMain_tapeCanBeValue 15 = .ok (.invokevirtual 151, 3) := by decide +kernel
theorem dMain_tapeCanBeValue_18 : decode cMain_tapeCanBeValue 18 = .ok (.bipush 12, 2) := by decide +kernel
theorem dMain_tapeCanBeValue_20 : decode cMain_tapeCanBeValue 20 = .ok (.if_icmp .gt 19, 3) := by decide +kernel
theorem dMain_tapeCanBeValue_23 : decode cMain_tapeCanBeValue 23 = .ok (.aload_n 0, 1) := by decide +kernel
theorem dMain_tapeCanBeValue_24 : decode cMain_tapeCanBeValue 24 = .ok (.getfield 39, 3) := by decide +kernel
theorem dMain_tapeCanBeValue_27 : decode cMain_tapeCanBeValue 27 = .ok (.bipush 32, 2) := by decide +kernel
theorem dMain_tapeCanBeValue_29 : decode cMain_tapeCanBeValue 29 = .ok (.invokevirtual 215, 3) := by decide +kernel
theorem dMain_tapeCanBeValue_32 : decode cMain_tapeCanBeValue 32 = .ok (.ifCond .ne 7, 3) := by decide +kernel
theorem dMain_tapeCanBeValue_35 : decode cMain_tapeCanBeValue 35 = .ok (.iconst 1, 1) := by decide +kernel
theorem dMain_tapeCanBeValue_36 : decode cMain_tapeCanBeValue 36 = .ok (.goto 4, 3) := by decide +kernel
theorem dMain_tapeCanBeValue_39 : decode cMain_tapeCanBeValue 39 = .ok (.iconst 0, 1) := by decide +kernel
theorem dMain_tapeCanBeValue_40 : decode cMain_tapeCanBeValue 40 = .ok (.ireturn, 1) := by decide +kernel
theorem dText_agrees_0 : decode cText_agrees 0 = .ok (.aload_n 0, 1) := by decide +kernel
theorem dText_agrees_1 : decode cText_agrees 1 = .ok (.getfield 21, 3) := by decide +kernel
theorem dText_agrees_4 : decode cText_agrees 4 = .ok (.aload_n 1, 1) := by decide +kernel
theorem dText_agrees_5 : decode cText_agrees 5 = .ok (.getfield 21, 3) := by decide +kernel
theorem dText_agrees_8 : decode cText_agrees 8 = .ok (.iload_n 2, 1) := by decide +kernel
theorem dText_agrees_9 : decode cText_agrees 9 = .ok (.isub, 1) := by decide +kernel
theorem dText_agrees_10 : decode cText_agrees 10 = .ok (.invokestatic 37, 3) := by decide +kernel
theorem dText_agrees_13 : decode cText_agrees 13 = .ok (.istore_n 3, 1) := by decide +kernel
theorem dText_agrees_14 : decode cText_agrees 14 = .ok (.iconst 0, 1) := by decide +kernel
theorem dText_agrees_15 : decode cText_agrees 15 = .ok (.istore 4, 2) := by decide +kernel
theorem dText_agrees_17 : decode cText_agrees 17 = .ok (.iload 4, 2) := by decide +kernel
theorem dText_agrees_19 : decode cText_agrees 19 = .ok (.iload_n 3, 1) := by decide +kernel
theorem dText_agrees_20 : decode cText_agrees 20 = .ok (.if_icmp .ge 28, 3) := by decide +kernel
theorem dText_agrees_23 : decode cText_agrees 23 = .ok (.aload_n 0, 1) := by decide +kernel
theorem dText_agrees_24 : decode cText_agrees 24 = .ok (.iload 4, 2) := by decide +kernel
theorem dText_agrees_26 : decode cText_agrees 26 = .ok (.invokevirtual 25, 3) := by decide +kernel
theorem dText_agrees_29 : decode cText_agrees 29 = .ok (.aload_n 1, 1) := by decide +kernel
theorem dText_agrees_30 : decode cText_agrees 30 = .ok (.iload_n 2, 1) := by decide +kernel
theorem dText_agrees_31 : decode cText_agrees 31 = .ok (.iload 4, 2) := by decide +kernel
theorem dText_agrees_33 : decode cText_agrees 33 = .ok (.iadd, 1) := by decide +kernel
theorem dText_agrees_34 : decode cText_agrees 34 = .ok (.invokevirtual 25, 3) := by decide +kernel
theorem dText_agrees_37 : decode cText_agrees 37 = .ok (.if_icmp .eq 5, 3) := by decide +kernel
theorem dText_agrees_40 : decode cText_agrees 40 = .ok (.iconst 0, 1) := by decide +kernel
theorem dText_agrees_41 : decode cText_agrees 41 = .ok (.ireturn, 1) := by decide +kernel
theorem dText_agrees_42 : decode cText_agrees 42 = .ok (.iinc 4 1, 3) := by decide +kernel
theorem dText_agrees_45 : decode cText_agrees 45 = .ok (.goto (-28), 3) := by decide +kernel
theorem dText_agrees_48 : decode cText_agrees 48 = .ok (.iconst 1, 1) := by decide +kernel
theorem dText_agrees_49 : decode cText_agrees 49 = .ok (.ireturn, 1) := by decide +kernel
def fAudit_init (n : Nat) (a0 : Nat) (z : gS) : Option (gS) :=
    g_bp (g_nwI z .int 600 600) fun a_1 z_2 =>
    (g_pF z_2 a0 6 0 (.ref a_1)).bind fun z_3 =>
    some z_3
set_option maxHeartbeats 4000000 in
set_option maxRecDepth 100000 in
theorem mAudit_init (l : Launch) (D : va_G) (A : Nat → Prop) (n : Nat) (z z' : gS) (a0 : Nat) (hf : fAudit_init n a0 z = some z') : Met l yAudit_init wsAudit_init ({ frames := 1, cells := 1, slots := 600, locals := 12 }) (g_P D vwCl gNN gOO A z [.ref a0]) (g_Qv D vwCl A z') 1 600 A := by
  refine Met.ofW (cc := cAudit_init) (maxL := 1) (ret := none) (by decide) rfl ?_
  intro p e s m args below meth c s₁ B hml hv
  obtain ⟨rfl, hW, hK, hA0⟩ := hv
  have hin : meth.name = "<init>" := (name_of_methodNamed B.named B.method).1
  have C : g_C p s m meth c _ cAudit_init 1 none "SecretRows$Audit" gW D vwCl gNN gOO A := ⟨B.exec, B.bytes, B.returns, hml, findClass_of_methodNamed B.named, fun w hw => atoms_spec (ws := wsAudit_init) B.pre w (List.mem_cons_of_mem _ hw), B.notSynchronized, hK, fun q hq => hA0 q (by rw [← hW.1]; exact hq)⟩
  have hS : va_S A s.heap s.heap [] := va_S.rf
  have hl := lv_entry ([.ref a0]) (n := 1) (Nat.le_of_ble_eq_true rfl)
  rw [lg_entry_eq]
  generalize (lg_sl ([.ref a0]) ++ List.replicate (1 - (lg_sl ([.ref a0])).length) Slot.unset).toArray = ls at hl ⊢
  have hl : lv_has ls 1 [(0, .ref a0)] := hl
  obtain ⟨hx, hb, hr, hml, hown, hts, hlocks, hK, hA⟩ := id C
  unfold fAudit_init at hf
  refine lv_aload_n hx hb dAudit_init_0 rfl (lv_at hl 0 rfl) ?_
  refine W.objInit hx hb hown (hts _ kw_31) (hts _ kw_18) (hts _ kw_19) rfl (by rw [hml]; exact hl.1) rfl dAudit_init_1 (Nat.le_of_ble_eq_true rfl) (Nat.le_of_ble_eq_true rfl) ?_
  refine W.eq (g2 := F0 m 4 _ []) rfl ?_
  refine lv_aload_n hx hb dAudit_init_4 rfl (lv_at hl 0 rfl) ?_
  refine lv_sipush (v := 600) hx hb dAudit_init_5 (by decide) ?_
  replace hf := g_bps hf
  obtain ⟨a_1, z_2, hz_2, hf⟩ := hf
  refine g_newI (atype := .int) hx hb (hts _ kw_39) rfl rfl hW hS hA (B := 600) (Nat.le_of_ble_eq_true rfl) (Nat.le_of_ble_eq_true rfl) (Nat.le_of_ble_eq_true rfl) hz_2 dAudit_init_8 (fun H hW hS => ?_)
  refine W.cs (cells' := 1) (slots' := 600) rfl rfl ?_
  replace hf := g_bd hf
  obtain ⟨z_3, hz_3, hf⟩ := hf
  refine g_putF hx hb hts in_Audit ty_Audit tyok_Audit nm_Audit hown hK hW hS (ci := 6) (C := "SecretRows$Audit") (T := T_Audit) (N := 2) rfl (k := 0) (by decide) (hts _ kw_32) (fun _ h9 => h9) rfl hin rfl (ty := (.array .int)) (by decide +kernel) rfl rfl hz_3 dAudit_init_10 (fun H locs hW hS => ?_)
  cases hf
  exact g_retv hx hb hr hlocks hW hS (Nat.le_of_ble_eq_true rfl) (Nat.le_of_ble_eq_true rfl) dAudit_init_13

def fText_init (n : Nat) (a0 : Nat) (i1 : Int32) (z : gS) : Option (gS) :=
    g_bp (g_nwI z .char (if i1 < 0 then 0 else i1) 300) fun a_1 z_2 =>
    (g_pF z_2 a0 0 0 (.ref a_1)).bind fun z_3 =>
    some z_3
set_option maxHeartbeats 4000000 in
set_option maxRecDepth 100000 in
theorem mText_init (l : Launch) (D : va_G) (A : Nat → Prop) (n : Nat) (z z' : gS) (a0 : Nat) (i1 : Int32) (hf : fText_init n a0 i1 z = some z') : Met l yText_init wsText_init ({ frames := 1, cells := 1, slots := 300, locals := 15 }) (g_P D vwCl gNN gOO A z [.ref a0, .int i1]) (g_Qv D vwCl A z') 1 300 A := by
  refine Met.ofW (cc := cText_init) (maxL := 2) (ret := none) (by decide) rfl ?_
  intro p e s m args below meth c s₁ B hml hv
  obtain ⟨rfl, hW, hK, hA0⟩ := hv
  have hin : meth.name = "<init>" := (name_of_methodNamed B.named B.method).1
  have C : g_C p s m meth c _ cText_init 2 none "SecretRows$Text" gW D vwCl gNN gOO A := ⟨B.exec, B.bytes, B.returns, hml, findClass_of_methodNamed B.named, fun w hw => atoms_spec (ws := wsText_init) B.pre w (List.mem_cons_of_mem _ hw), B.notSynchronized, hK, fun q hq => hA0 q (by rw [← hW.1]; exact hq)⟩
  have hS : va_S A s.heap s.heap [] := va_S.rf
  have hl := lv_entry ([.ref a0, .int i1]) (n := 2) (Nat.le_of_ble_eq_true rfl)
  rw [lg_entry_eq]
  generalize (lg_sl ([.ref a0, .int i1]) ++ List.replicate (2 - (lg_sl ([.ref a0, .int i1])).length) Slot.unset).toArray = ls at hl ⊢
  have hl : lv_has ls 2 [(0, .ref a0), (1, .int i1)] := hl
  obtain ⟨hx, hb, hr, hml, hown, hts, hlocks, hK, hA⟩ := id C
  unfold fText_init at hf
  refine lv_aload_n hx hb dText_init_0 rfl (lv_at hl 0 rfl) ?_
  refine W.objInit hx hb hown (hts _ kw_45) (hts _ kw_18) (hts _ kw_19) rfl (by rw [hml]; exact hl.1) rfl dText_init_1 (Nat.le_of_ble_eq_true rfl) (Nat.le_of_ble_eq_true rfl) ?_
  refine W.eq (g2 := F0 m 4 _ []) rfl ?_
  refine lv_aload_n hx hb dText_init_4 rfl (lv_at hl 0 rfl) ?_
  refine lv_iload_n hx hb dText_init_5 rfl (lv_at hl 1 rfl) ?_
  refine lv_iconst (v := 0) hx hb dText_init_6 (by decide) ?_
  refine va_mmax hx hb (by rw [hml]; exact hl.1.symm) hown (hts _ kw_46) (hts _ kw_47) (hts _ kw_4) (hts _ kw_48) (Nat.le_of_ble_eq_true rfl) (Nat.le_of_ble_eq_true rfl) (Nat.le_of_ble_eq_true rfl) (Nat.le_of_ble_eq_true rfl) dText_init_7 ?_
  replace hf := g_bps hf
  obtain ⟨a_1, z_2, hz_2, hf⟩ := hf
  refine g_newI (atype := .char) hx hb (hts _ kw_56) rfl rfl hW hS hA (B := 300) (Nat.le_of_ble_eq_true rfl) (Nat.le_of_ble_eq_true rfl) (Nat.le_of_ble_eq_true rfl) hz_2 dText_init_10 (fun H hW hS => ?_)
  refine W.cs (cells' := 1) (slots' := 300) rfl rfl ?_
  replace hf := g_bd hf
  obtain ⟨z_3, hz_3, hf⟩ := hf
  refine g_putF hx hb hts in_Text ty_Text tyok_Text nm_Text hown hK hW hS (ci := 0) (C := "SecretRows$Text") (T := T_Text) (N := 2) rfl (k := 0) (by decide) (hts _ kw_49) (fun _ h9 => h9) rfl hin rfl (ty := (.array .char)) (by decide +kernel) rfl rfl hz_3 dText_init_12 (fun H locs hW hS => ?_)
  cases hf
  exact g_retv hx hb hr hlocks hW hS (Nat.le_of_ble_eq_true rfl) (Nat.le_of_ble_eq_true rfl) dText_init_15

def fForms_init (n : Nat) (a0 : Nat) (z : gS) : Option (gS) :=
    g_bp (g_nwR z (.object "SecretRows$Text") 60 60) fun a_1 z_2 =>
    (g_pF z_2 a0 7 0 (.ref a_1)).bind fun z_3 =>
    g_bp (g_nwI z_3 .int 60 60) fun a_4 z_5 =>
    (g_pF z_5 a0 7 1 (.ref a_4)).bind fun z_6 =>
    g_bp (g_nwI z_6 .int 60 60) fun a_7 z_8 =>
    (g_pF z_8 a0 7 2 (.ref a_7)).bind fun z_9 =>
    g_bp (g_nwI z_9 .int 60 60) fun a_10 z_11 =>
    (g_pF z_11 a0 7 3 (.ref a_10)).bind fun z_12 =>
    some z_12
set_option maxHeartbeats 4000000 in
set_option maxRecDepth 100000 in
theorem mForms_init (l : Launch) (D : va_G) (A : Nat → Prop) (n : Nat) (z z' : gS) (a0 : Nat) (hf : fForms_init n a0 z = some z') : Met l yForms_init wsForms_init ({ frames := 1, cells := 4, slots := 240, locals := 12 }) (g_P D vwCl gNN gOO A z [.ref a0]) (g_Qv D vwCl A z') 4 240 A := by
  refine Met.ofW (cc := cForms_init) (maxL := 1) (ret := none) (by decide) rfl ?_
  intro p e s m args below meth c s₁ B hml hv
  obtain ⟨rfl, hW, hK, hA0⟩ := hv
  have hin : meth.name = "<init>" := (name_of_methodNamed B.named B.method).1
  have C : g_C p s m meth c _ cForms_init 1 none "SecretRows$Forms" gW D vwCl gNN gOO A := ⟨B.exec, B.bytes, B.returns, hml, findClass_of_methodNamed B.named, fun w hw => atoms_spec (ws := wsForms_init) B.pre w (List.mem_cons_of_mem _ hw), B.notSynchronized, hK, fun q hq => hA0 q (by rw [← hW.1]; exact hq)⟩
  have hS : va_S A s.heap s.heap [] := va_S.rf
  have hl := lv_entry ([.ref a0]) (n := 1) (Nat.le_of_ble_eq_true rfl)
  rw [lg_entry_eq]
  generalize (lg_sl ([.ref a0]) ++ List.replicate (1 - (lg_sl ([.ref a0])).length) Slot.unset).toArray = ls at hl ⊢
  have hl : lv_has ls 1 [(0, .ref a0)] := hl
  obtain ⟨hx, hb, hr, hml, hown, hts, hlocks, hK, hA⟩ := id C
  unfold fForms_init at hf
  refine lv_aload_n hx hb dForms_init_0 rfl (lv_at hl 0 rfl) ?_
  refine W.objInit hx hb hown (hts _ kw_62) (hts _ kw_18) (hts _ kw_19) rfl (by rw [hml]; exact hl.1) rfl dForms_init_1 (Nat.le_of_ble_eq_true rfl) (Nat.le_of_ble_eq_true rfl) ?_
  refine W.eq (g2 := F0 m 4 _ []) rfl ?_
  refine lv_aload_n hx hb dForms_init_4 rfl (lv_at hl 0 rfl) ?_
  refine lv_bipush (v := 60) hx hb dForms_init_5 (by decide) ?_
  replace hf := g_bps hf
  obtain ⟨a_1, z_2, hz_2, hf⟩ := hf
  refine g_newR hx hb hown (hts _ kw_63) hK (by decide +kernel) hW hS hA (B := 60) (Nat.le_of_ble_eq_true rfl) (Nat.le_of_ble_eq_true rfl) (Nat.le_of_ble_eq_true rfl) hz_2 dForms_init_7 (fun H hW hS => ?_)
  refine W.cs (cells' := 1) (slots' := 60) rfl rfl ?_
  replace hf := g_bd hf
  obtain ⟨z_3, hz_3, hf⟩ := hf
  refine g_putF hx hb hts in_Forms ty_Forms tyok_Forms nm_Forms hown hK hW hS (ci := 7) (C := "SecretRows$Forms") (T := T_Forms) (N := 5) rfl (k := 0) (by decide) (hts _ kw_65) (fun _ h9 => h9) rfl hin rfl (ty := (.array (.object "SecretRows$Text"))) (by decide +kernel) rfl rfl hz_3 dForms_init_10 (fun H locs hW hS => ?_)
  refine lv_aload_n hx hb dForms_init_13 rfl (lv_at hl 0 rfl) ?_
  refine lv_bipush (v := 60) hx hb dForms_init_14 (by decide) ?_
  replace hf := g_bps hf
  obtain ⟨a_4, z_5, hz_5, hf⟩ := hf
  refine g_newI (atype := .int) hx hb (hts _ kw_39) rfl rfl hW hS hA (B := 60) (Nat.le_of_ble_eq_true rfl) (Nat.le_of_ble_eq_true rfl) (Nat.le_of_ble_eq_true rfl) hz_5 dForms_init_16 (fun H hW hS => ?_)
  refine W.cs (cells' := 2) (slots' := 120) rfl rfl ?_
  replace hf := g_bd hf
  obtain ⟨z_6, hz_6, hf⟩ := hf
  refine g_putF hx hb hts in_Forms ty_Forms tyok_Forms nm_Forms hown hK hW hS (ci := 7) (C := "SecretRows$Forms") (T := T_Forms) (N := 5) rfl (k := 1) (by decide) (hts _ kw_66) (fun _ h9 => h9) rfl hin rfl (ty := (.array .int)) (by decide +kernel) rfl rfl hz_6 dForms_init_18 (fun H locs hW hS => ?_)
  refine lv_aload_n hx hb dForms_init_21 rfl (lv_at hl 0 rfl) ?_
  refine lv_bipush (v := 60) hx hb dForms_init_22 (by decide) ?_
  replace hf := g_bps hf
  obtain ⟨a_7, z_8, hz_8, hf⟩ := hf
  refine g_newI (atype := .int) hx hb (hts _ kw_39) rfl rfl hW hS hA (B := 60) (Nat.le_of_ble_eq_true rfl) (Nat.le_of_ble_eq_true rfl) (Nat.le_of_ble_eq_true rfl) hz_8 dForms_init_24 (fun H hW hS => ?_)
  refine W.cs (cells' := 3) (slots' := 180) rfl rfl ?_
  replace hf := g_bd hf
  obtain ⟨z_9, hz_9, hf⟩ := hf
  refine g_putF hx hb hts in_Forms ty_Forms tyok_Forms nm_Forms hown hK hW hS (ci := 7) (C := "SecretRows$Forms") (T := T_Forms) (N := 5) rfl (k := 2) (by decide) (hts _ kw_67) (fun _ h9 => h9) rfl hin rfl (ty := (.array .int)) (by decide +kernel) rfl rfl hz_9 dForms_init_26 (fun H locs hW hS => ?_)
  refine lv_aload_n hx hb dForms_init_29 rfl (lv_at hl 0 rfl) ?_
  refine lv_bipush (v := 60) hx hb dForms_init_30 (by decide) ?_
  replace hf := g_bps hf
  obtain ⟨a_10, z_11, hz_11, hf⟩ := hf
  refine g_newI (atype := .int) hx hb (hts _ kw_39) rfl rfl hW hS hA (B := 60) (Nat.le_of_ble_eq_true rfl) (Nat.le_of_ble_eq_true rfl) (Nat.le_of_ble_eq_true rfl) hz_11 dForms_init_32 (fun H hW hS => ?_)
  refine W.cs (cells' := 4) (slots' := 240) rfl rfl ?_
  replace hf := g_bd hf
  obtain ⟨z_12, hz_12, hf⟩ := hf
  refine g_putF hx hb hts in_Forms ty_Forms tyok_Forms nm_Forms hown hK hW hS (ci := 7) (C := "SecretRows$Forms") (T := T_Forms) (N := 5) rfl (k := 3) (by decide) (hts _ kw_68) (fun _ h9 => h9) rfl hin rfl (ty := (.array .int)) (by decide +kernel) rfl rfl hz_12 dForms_init_34 (fun H locs hW hS => ?_)
  cases hf
  exact g_retv hx hb hr hlocks hW hS (Nat.le_of_ble_eq_true rfl) (Nat.le_of_ble_eq_true rfl) dForms_init_37

def fMain_init (n : Nat) (a0 : Nat) (z : gS) : Option (gS) :=
    g_bp (g_nwR z (.object "SecretRows$Secret") 10 10) fun a_1 z_2 =>
    (g_pF z_2 a0 8 0 (.ref a_1)).bind fun z_3 =>
    g_bp (g_nwR z_3 (.object "SecretRows$Step") 12 12) fun a_4 z_5 =>
    (g_pF z_5 a0 8 1 (.ref a_4)).bind fun z_6 =>
    g_bp (g_nwR z_6 (.object "SecretRows$Token") 20 20) fun a_7 z_8 =>
    (g_pF z_8 a0 8 2 (.ref a_7)).bind fun z_9 =>
    g_bp (g_nwO z_9 6 [.null, .int 0]) fun a_10 z_11 =>
    (fAudit_init n a_10 z_11).bind fun z_12 =>
    (g_pF z_12 a0 8 3 (.ref a_10)).bind fun z_13 =>
    g_bp (g_nwO z_13 0 [.null, .int 0]) fun a_14 z_15 =>
    (fText_init n a_14 300 z_15).bind fun z_16 =>
    (g_pF z_16 a0 8 4 (.ref a_14)).bind fun z_17 =>
    g_bp (g_nwO z_17 7 [.null, .null, .null, .null, .int 0]) fun a_18 z_19 =>
    (fForms_init n a_18 z_19).bind fun z_20 =>
    (g_pF z_20 a0 8 5 (.ref a_18)).bind fun z_21 =>
    (g_pF z_21 a0 8 11 (.int (-1))).bind fun z_22 =>
    (g_pF z_22 a0 8 12 (.int (-1))).bind fun z_23 =>
    (g_pF z_23 a0 8 13 (.int (-1))).bind fun z_24 =>
    some z_24
set_option maxHeartbeats 4000000 in
set_option maxRecDepth 100000 in
theorem mMain_init (l : Launch) (D : va_G) (A : Nat → Prop) (n : Nat) (z z' : gS) (a0 : Nat) (hf : fMain_init n a0 z = some z') : Met l yMain_init wsMain_init ({ frames := 2, cells := 12, slots := 1191, locals := 36 }) (g_P D vwCl gNN gOO A z [.ref a0]) (g_Qv D vwCl A z') 12 1191 A := by
  refine Met.ofW (cc := cMain_init) (maxL := 1) (ret := none) (by decide) rfl ?_
  intro p e s m args below meth c s₁ B hml hv
  obtain ⟨rfl, hW, hK, hA0⟩ := hv
  have hin : meth.name = "<init>" := (name_of_methodNamed B.named B.method).1
  have C : g_C p s m meth c _ cMain_init 1 none "SecretRows" gW D vwCl gNN gOO A := ⟨B.exec, B.bytes, B.returns, hml, findClass_of_methodNamed B.named, fun w hw => atoms_spec (ws := wsMain_init) B.pre w (List.mem_cons_of_mem _ hw), B.notSynchronized, hK, fun q hq => hA0 q (by rw [← hW.1]; exact hq)⟩
  have hS : va_S A s.heap s.heap [] := va_S.rf
  have hl := lv_entry ([.ref a0]) (n := 1) (Nat.le_of_ble_eq_true rfl)
  rw [lg_entry_eq]
  generalize (lg_sl ([.ref a0]) ++ List.replicate (1 - (lg_sl ([.ref a0])).length) Slot.unset).toArray = ls at hl ⊢
  have hl : lv_has ls 1 [(0, .ref a0)] := hl
  obtain ⟨hx, hb, hr, hml, hown, hts, hlocks, hK, hA⟩ := id C
  unfold fMain_init at hf
  refine lv_aload_n hx hb dMain_init_0 rfl (lv_at hl 0 rfl) ?_
  refine W.objInit hx hb hown (hts _ kw_17) (hts _ kw_18) (hts _ kw_19) rfl (by rw [hml]; exact hl.1) rfl dMain_init_1 (Nat.le_of_ble_eq_true rfl) (Nat.le_of_ble_eq_true rfl) ?_
  refine W.eq (g2 := F0 m 4 _ []) rfl ?_
  refine lv_aload_n hx hb dMain_init_4 rfl (lv_at hl 0 rfl) ?_
  refine lv_bipush (v := 10) hx hb dMain_init_5 (by decide) ?_
  replace hf := g_bps hf
  obtain ⟨a_1, z_2, hz_2, hf⟩ := hf
  refine g_newR hx hb hown (hts _ kw_20) hK (by decide +kernel) hW hS hA (B := 10) (Nat.le_of_ble_eq_true rfl) (Nat.le_of_ble_eq_true rfl) (Nat.le_of_ble_eq_true rfl) hz_2 dMain_init_7 (fun H hW hS => ?_)
  refine W.cs (cells' := 1) (slots' := 10) rfl rfl ?_
  replace hf := g_bd hf
  obtain ⟨z_3, hz_3, hf⟩ := hf
  refine g_putF hx hb hts in_Main ty_Main tyok_Main nm_Main hown hK hW hS (ci := 8) (C := "SecretRows") (T := T_Main) (N := 14) rfl (k := 0) (by decide) (hts _ kw_81) (fun _ h9 => h9) rfl hin rfl (ty := (.array (.object "SecretRows$Secret"))) (by decide +kernel) rfl rfl hz_3 dMain_init_10 (fun H locs hW hS => ?_)
  refine lv_aload_n hx hb dMain_init_13 rfl (lv_at hl 0 rfl) ?_
  refine lv_bipush (v := 12) hx hb dMain_init_14 (by decide) ?_
  replace hf := g_bps hf
  obtain ⟨a_4, z_5, hz_5, hf⟩ := hf
  refine g_newR hx hb hown (hts _ kw_22) hK (by decide +kernel) hW hS hA (B := 12) (Nat.le_of_ble_eq_true rfl) (Nat.le_of_ble_eq_true rfl) (Nat.le_of_ble_eq_true rfl) hz_5 dMain_init_16 (fun H hW hS => ?_)
  refine W.cs (cells' := 2) (slots' := 22) rfl rfl ?_
  replace hf := g_bd hf
  obtain ⟨z_6, hz_6, hf⟩ := hf
  refine g_putF hx hb hts in_Main ty_Main tyok_Main nm_Main hown hK hW hS (ci := 8) (C := "SecretRows") (T := T_Main) (N := 14) rfl (k := 1) (by decide) (hts _ kw_82) (fun _ h9 => h9) rfl hin rfl (ty := (.array (.object "SecretRows$Step"))) (by decide +kernel) rfl rfl hz_6 dMain_init_19 (fun H locs hW hS => ?_)
  refine lv_aload_n hx hb dMain_init_22 rfl (lv_at hl 0 rfl) ?_
  refine lv_bipush (v := 20) hx hb dMain_init_23 (by decide) ?_
  replace hf := g_bps hf
  obtain ⟨a_7, z_8, hz_8, hf⟩ := hf
  refine g_newR hx hb hown (hts _ kw_24) hK (by decide +kernel) hW hS hA (B := 20) (Nat.le_of_ble_eq_true rfl) (Nat.le_of_ble_eq_true rfl) (Nat.le_of_ble_eq_true rfl) hz_8 dMain_init_25 (fun H hW hS => ?_)
  refine W.cs (cells' := 3) (slots' := 42) rfl rfl ?_
  replace hf := g_bd hf
  obtain ⟨z_9, hz_9, hf⟩ := hf
  refine g_putF hx hb hts in_Main ty_Main tyok_Main nm_Main hown hK hW hS (ci := 8) (C := "SecretRows") (T := T_Main) (N := 14) rfl (k := 2) (by decide) (hts _ kw_83) (fun _ h9 => h9) rfl hin rfl (ty := (.array (.object "SecretRows$Token"))) (by decide +kernel) rfl rfl hz_9 dMain_init_28 (fun H locs hW hS => ?_)
  refine lv_aload_n hx hb dMain_init_31 rfl (lv_at hl 0 rfl) ?_
  replace hf := g_bps hf
  obtain ⟨a_10, z_11, hz_11, hf⟩ := hf
  refine g_newO hx hb hts in_Audit ty_Audit tyok_Audit hown (hts _ kw_26) (hts _ kw_27) (hts _ kw_2) hK hW hS hA (ci := 6) (C := "SecretRows$Audit") (T := T_Audit) (N := 2) rfl (fun j hj => by rcases (show j = 0 ∨ j = 1 by omega) with rfl | rfl <;> rfl) (Nat.le_of_ble_eq_true rfl) (Nat.le_of_ble_eq_true rfl) hz_11 dMain_init_32 (fun H hW hS => ?_)
  refine W.cs (cells' := 4) (slots' := 44) rfl rfl ?_
  refine lv_dup hx hb dMain_init_35 rfl ?_
  replace hf := g_bd hf
  obtain ⟨z_12, hz_12, hf⟩ := hf
  refine g_gov (g_rI (As := []) (rest := [.ref a_10, .ref a0]) ⟨hx, hb, hml, hown, hts⟩ (mAudit_init l D A n _ _ a_10 hz_12) (cwI 0 hts (gi_I kw_30) rfl rfl rfl (hts _ kw_2) (hts _ kw_28) (hts _ kw_29) rfl hdAudit_init ⟨Nat.le_of_ble_eq_true rfl, Nat.le_of_ble_eq_true rfl⟩) hK hW hS hA rfl hl.1 rfl (Nat.le_of_ble_eq_true rfl) dMain_init_36 ⟨Nat.le_of_ble_eq_true rfl, Nat.le_of_ble_eq_true rfl⟩) hS (fun H locs hW hS => ?_)
  refine W.cs (cells' := 5) (slots' := 644) rfl rfl ?_
  replace hf := g_bd hf
  obtain ⟨z_13, hz_13, hf⟩ := hf
  refine g_putF hx hb hts in_Main ty_Main tyok_Main nm_Main hown hK hW hS (ci := 8) (C := "SecretRows") (T := T_Main) (N := 14) rfl (k := 3) (by decide) (hts _ kw_84) (fun _ h9 => h9) rfl hin rfl (ty := (.object "SecretRows$Audit")) (by decide +kernel) rfl rfl hz_13 dMain_init_39 (fun H locs hW hS => ?_)
  refine lv_aload_n hx hb dMain_init_42 rfl (lv_at hl 0 rfl) ?_
  replace hf := g_bps hf
  obtain ⟨a_14, z_15, hz_15, hf⟩ := hf
  refine g_newO hx hb hts in_Text ty_Text tyok_Text hown (hts _ kw_40) (hts _ kw_41) (hts _ kw_3) hK hW hS hA (ci := 0) (C := "SecretRows$Text") (T := T_Text) (N := 2) rfl (fun j hj => by rcases (show j = 0 ∨ j = 1 by omega) with rfl | rfl <;> rfl) (Nat.le_of_ble_eq_true rfl) (Nat.le_of_ble_eq_true rfl) hz_15 dMain_init_43 (fun H hW hS => ?_)
  refine W.cs (cells' := 6) (slots' := 646) rfl rfl ?_
  refine lv_dup hx hb dMain_init_46 rfl ?_
  refine lv_sipush (v := 300) hx hb dMain_init_47 (by decide) ?_
  replace hf := g_bd hf
  obtain ⟨z_16, hz_16, hf⟩ := hf
  refine g_gov (g_rI (As := [.int 300]) (rest := [.ref a_14, .ref a0]) ⟨hx, hb, hml, hown, hts⟩ (mText_init l D A n _ _ a_14 300 hz_16) (cwI 1 hts (gi_I kw_44) rfl rfl rfl (hts _ kw_3) (hts _ kw_42) (hts _ kw_43) rfl hdText_init ⟨Nat.le_of_ble_eq_true rfl, Nat.le_of_ble_eq_true rfl⟩) hK hW hS hA rfl hl.1 rfl (Nat.le_of_ble_eq_true rfl) dMain_init_50 ⟨Nat.le_of_ble_eq_true rfl, Nat.le_of_ble_eq_true rfl⟩) hS (fun H locs hW hS => ?_)
  refine W.cs (cells' := 7) (slots' := 946) rfl rfl ?_
  replace hf := g_bd hf
  obtain ⟨z_17, hz_17, hf⟩ := hf
  refine g_putF hx hb hts in_Main ty_Main tyok_Main nm_Main hown hK hW hS (ci := 8) (C := "SecretRows") (T := T_Main) (N := 14) rfl (k := 4) (by decide) (hts _ kw_85) (fun _ h9 => h9) rfl hin rfl (ty := (.object "SecretRows$Text")) (by decide +kernel) rfl rfl hz_17 dMain_init_53 (fun H locs hW hS => ?_)
  refine lv_aload_n hx hb dMain_init_56 rfl (lv_at hl 0 rfl) ?_
  replace hf := g_bps hf
  obtain ⟨a_18, z_19, hz_19, hf⟩ := hf
  refine g_newO hx hb hts in_Forms ty_Forms tyok_Forms hown (hts _ kw_57) (hts _ kw_58) (hts _ kw_5) hK hW hS hA (ci := 7) (C := "SecretRows$Forms") (T := T_Forms) (N := 5) rfl (fun j hj => by rcases (show j = 0 ∨ j = 1 ∨ j = 2 ∨ j = 3 ∨ j = 4 by omega) with rfl | rfl | rfl | rfl | rfl <;> rfl) (Nat.le_of_ble_eq_true rfl) (Nat.le_of_ble_eq_true rfl) hz_19 dMain_init_57 (fun H hW hS => ?_)
  refine W.cs (cells' := 8) (slots' := 951) rfl rfl ?_
  refine lv_dup hx hb dMain_init_60 rfl ?_
  replace hf := g_bd hf
  obtain ⟨z_20, hz_20, hf⟩ := hf
  refine g_gov (g_rI (As := []) (rest := [.ref a_18, .ref a0]) ⟨hx, hb, hml, hown, hts⟩ (mForms_init l D A n _ _ a_18 hz_20) (cwI 0 hts (gi_I kw_61) rfl rfl rfl (hts _ kw_5) (hts _ kw_59) (hts _ kw_60) rfl hdForms_init ⟨Nat.le_of_ble_eq_true rfl, Nat.le_of_ble_eq_true rfl⟩) hK hW hS hA rfl hl.1 rfl (Nat.le_of_ble_eq_true rfl) dMain_init_61 ⟨Nat.le_of_ble_eq_true rfl, Nat.le_of_ble_eq_true rfl⟩) hS (fun H locs hW hS => ?_)
  refine W.cs (cells' := 12) (slots' := 1191) rfl rfl ?_
  replace hf := g_bd hf
  obtain ⟨z_21, hz_21, hf⟩ := hf
  refine g_putF hx hb hts in_Main ty_Main tyok_Main nm_Main hown hK hW hS (ci := 8) (C := "SecretRows") (T := T_Main) (N := 14) rfl (k := 5) (by decide) (hts _ kw_86) (fun _ h9 => h9) rfl hin rfl (ty := (.object "SecretRows$Forms")) (by decide +kernel) rfl rfl hz_21 dMain_init_64 (fun H locs hW hS => ?_)
  refine lv_aload_n hx hb dMain_init_67 rfl (lv_at hl 0 rfl) ?_
  refine lv_iconst (v := (-1)) hx hb dMain_init_68 (by decide) ?_
  replace hf := g_bd hf
  obtain ⟨z_22, hz_22, hf⟩ := hf
  refine g_put hx hb hts in_Main ty_Main tyok_Main nm_Main hown hK hW hS (ci := 8) (C := "SecretRows") (T := T_Main) (N := 14) rfl (k := 11) (by decide) (hts _ kw_92) (fun _ h9 => h9) rfl (ty := .int) (by decide +kernel) rfl rfl hz_22 dMain_init_69 (fun H locs hW hS => ?_)
  refine lv_aload_n hx hb dMain_init_72 rfl (lv_at hl 0 rfl) ?_
  refine lv_iconst (v := (-1)) hx hb dMain_init_73 (by decide) ?_
  replace hf := g_bd hf
  obtain ⟨z_23, hz_23, hf⟩ := hf
  refine g_put hx hb hts in_Main ty_Main tyok_Main nm_Main hown hK hW hS (ci := 8) (C := "SecretRows") (T := T_Main) (N := 14) rfl (k := 12) (by decide) (hts _ kw_93) (fun _ h9 => h9) rfl (ty := .int) (by decide +kernel) rfl rfl hz_23 dMain_init_74 (fun H locs hW hS => ?_)
  refine lv_aload_n hx hb dMain_init_77 rfl (lv_at hl 0 rfl) ?_
  refine lv_iconst (v := (-1)) hx hb dMain_init_78 (by decide) ?_
  replace hf := g_bd hf
  obtain ⟨z_24, hz_24, hf⟩ := hf
  refine g_put hx hb hts in_Main ty_Main tyok_Main nm_Main hown hK hW hS (ci := 8) (C := "SecretRows") (T := T_Main) (N := 14) rfl (k := 13) (by decide) (hts _ kw_94) (fun _ h9 => h9) rfl (ty := .int) (by decide +kernel) rfl rfl hz_24 dMain_init_79 (fun H locs hW hS => ?_)
  cases hf
  exact g_retv hx hb hr hlocks hW hS (Nat.le_of_ble_eq_true rfl) (Nat.le_of_ble_eq_true rfl) dMain_init_82

def fSecret_init (n : Nat) (a0 : Nat) (i1 : Int32) (i2 : Int32) (i3 : Int32) (z : gS) : Option (gS) :=
    (g_pF z a0 2 0 (.int i1)).bind fun z_1 =>
    (g_pF z_1 a0 2 1 (.int i2)).bind fun z_2 =>
    (g_pF z_2 a0 2 2 (.int i3)).bind fun z_3 =>
    some z_3
set_option maxHeartbeats 4000000 in
set_option maxRecDepth 100000 in
theorem mSecret_init (l : Launch) (D : va_G) (A : Nat → Prop) (n : Nat) (z z' : gS) (a0 : Nat) (i1 : Int32) (i2 : Int32) (i3 : Int32) (hf : fSecret_init n a0 i1 i2 i3 z = some z') : Met l ySecret_init wsSecret_init ({ frames := 1, cells := 0, slots := 0, locals := 12 }) (g_P D vwCl gNN gOO A z [.ref a0, .int i1, .int i2, .int i3]) (g_Qv D vwCl A z') 0 0 A := by
  refine Met.ofW (cc := cSecret_init) (maxL := 4) (ret := none) (by decide) rfl ?_
  intro p e s m args below meth c s₁ B hml hv
  obtain ⟨rfl, hW, hK, hA0⟩ := hv
  have hin : meth.name = "<init>" := (name_of_methodNamed B.named B.method).1
  have C : g_C p s m meth c _ cSecret_init 4 none "SecretRows$Secret" gW D vwCl gNN gOO A := ⟨B.exec, B.bytes, B.returns, hml, findClass_of_methodNamed B.named, fun w hw => atoms_spec (ws := wsSecret_init) B.pre w (List.mem_cons_of_mem _ hw), B.notSynchronized, hK, fun q hq => hA0 q (by rw [← hW.1]; exact hq)⟩
  have hS : va_S A s.heap s.heap [] := va_S.rf
  have hl := lv_entry ([.ref a0, .int i1, .int i2, .int i3]) (n := 4) (Nat.le_of_ble_eq_true rfl)
  rw [lg_entry_eq]
  generalize (lg_sl ([.ref a0, .int i1, .int i2, .int i3]) ++ List.replicate (4 - (lg_sl ([.ref a0, .int i1, .int i2, .int i3])).length) Slot.unset).toArray = ls at hl ⊢
  have hl : lv_has ls 4 [(0, .ref a0), (1, .int i1), (2, .int i2), (3, .int i3)] := hl
  obtain ⟨hx, hb, hr, hml, hown, hts, hlocks, hK, hA⟩ := id C
  unfold fSecret_init at hf
  refine lv_aload_n hx hb dSecret_init_0 rfl (lv_at hl 0 rfl) ?_
  refine W.objInit hx hb hown (hts _ kw_132) (hts _ kw_18) (hts _ kw_19) rfl (by rw [hml]; exact hl.1) rfl dSecret_init_1 (Nat.le_of_ble_eq_true rfl) (Nat.le_of_ble_eq_true rfl) ?_
  refine W.eq (g2 := F0 m 4 _ []) rfl ?_
  refine lv_aload_n hx hb dSecret_init_4 rfl (lv_at hl 0 rfl) ?_
  refine lv_iload_n hx hb dSecret_init_5 rfl (lv_at hl 1 rfl) ?_
  replace hf := g_bd hf
  obtain ⟨z_1, hz_1, hf⟩ := hf
  refine g_putF hx hb hts in_Secret ty_Secret tyok_Secret nm_Secret hown hK hW hS (ci := 2) (C := "SecretRows$Secret") (T := T_Secret) (N := 7) rfl (k := 0) (by decide) (hts _ kw_133) (fun _ h9 => h9) rfl hin rfl (ty := .int) (by decide +kernel) rfl rfl hz_1 dSecret_init_6 (fun H locs hW hS => ?_)
  refine lv_aload_n hx hb dSecret_init_9 rfl (lv_at hl 0 rfl) ?_
  refine lv_iload_n hx hb dSecret_init_10 rfl (lv_at hl 2 rfl) ?_
  replace hf := g_bd hf
  obtain ⟨z_2, hz_2, hf⟩ := hf
  refine g_putF hx hb hts in_Secret ty_Secret tyok_Secret nm_Secret hown hK hW hS (ci := 2) (C := "SecretRows$Secret") (T := T_Secret) (N := 7) rfl (k := 1) (by decide) (hts _ kw_134) (fun _ h9 => h9) rfl hin rfl (ty := .int) (by decide +kernel) rfl rfl hz_2 dSecret_init_11 (fun H locs hW hS => ?_)
  refine lv_aload_n hx hb dSecret_init_14 rfl (lv_at hl 0 rfl) ?_
  refine lv_iload_n hx hb dSecret_init_15 rfl (lv_at hl 3 rfl) ?_
  replace hf := g_bd hf
  obtain ⟨z_3, hz_3, hf⟩ := hf
  refine g_putF hx hb hts in_Secret ty_Secret tyok_Secret nm_Secret hown hK hW hS (ci := 2) (C := "SecretRows$Secret") (T := T_Secret) (N := 7) rfl (k := 2) (by decide) (hts _ kw_135) (fun _ h9 => h9) rfl hin rfl (ty := .int) (by decide +kernel) rfl rfl hz_3 dSecret_init_16 (fun H locs hW hS => ?_)
  cases hf
  exact g_retv hx hb hr hlocks hW hS (Nat.le_of_ble_eq_true rfl) (Nat.le_of_ble_eq_true rfl) dSecret_init_19

def fMain_secret (n : Nat) (a0 : Nat) (i1 : Int32) (i2 : Int32) (i3 : Int32) (z : gS) : Option (Int32 × gS) :=
    (g_fI z a0 8 6).bind fun v_1 =>
    (g_fR z a0 8 0).bind fun r_2 =>
    r_2.bind fun a_3 =>
    (g_len z a_3).bind fun v_4 =>
    if v_1 < v_4 then (
    (g_fR z a0 8 0).bind fun r_6 =>
    (g_fI z a0 8 6).bind fun v_7 =>
    g_bp (g_nwO z 2 [.int 0, .int 0, .int 0, .null, .null, .int 0, .int 0]) fun a_8 z_9 =>
    (fSecret_init n a_8 i1 i2 i3 z_9).bind fun z_10 =>
    r_6.bind fun a_11 =>
    (g_is z_10 a_8 2).bind fun _ =>
    (g_stR z_10 (.object "SecretRows$Secret") a_11 v_7 (some a_8)).bind fun z_12 =>
    (g_fI z_12 a0 8 6).bind fun v_13 =>
    (g_pF z_12 a0 8 6 (.int (v_13 + 1))).bind fun z_14 =>
    (g_fI z_14 a0 8 6).bind fun v_15 =>
    some ((v_15 - 1), z_14))
    else (
    some ((-1), z))
set_option maxHeartbeats 4000000 in
set_option maxRecDepth 100000 in
theorem mMain_secret (l : Launch) (D : va_G) (A : Nat → Prop) (n : Nat) (z z' : gS) (a0 : Nat) (i1 : Int32) (i2 : Int32) (i3 : Int32) (r : Int32) (hf : fMain_secret n a0 i1 i2 i3 z = some (r, z')) : Met l yMain_secret wsMain_secret ({ frames := 2, cells := 1, slots := 7, locals := 35 }) (g_P D vwCl gNN gOO A z [.ref a0, .int i1, .int i2, .int i3]) (g_Qi D vwCl A r z') 1 7 A := by
  refine Met.ofW (cc := cMain_secret) (maxL := 4) (ret := (some .int)) (by decide) rfl ?_
  intro p e s m args below meth c s₁ B hml hv
  obtain ⟨rfl, hW, hK, hA0⟩ := hv
  have C : g_C p s m meth c _ cMain_secret 4 (some .int) "SecretRows" gW D vwCl gNN gOO A := ⟨B.exec, B.bytes, B.returns, hml, findClass_of_methodNamed B.named, fun w hw => atoms_spec (ws := wsMain_secret) B.pre w (List.mem_cons_of_mem _ hw), B.notSynchronized, hK, fun q hq => hA0 q (by rw [← hW.1]; exact hq)⟩
  have hS : va_S A s.heap s.heap [] := va_S.rf
  have hl := lv_entry ([.ref a0, .int i1, .int i2, .int i3]) (n := 4) (Nat.le_of_ble_eq_true rfl)
  rw [lg_entry_eq]
  generalize (lg_sl ([.ref a0, .int i1, .int i2, .int i3]) ++ List.replicate (4 - (lg_sl ([.ref a0, .int i1, .int i2, .int i3])).length) Slot.unset).toArray = ls at hl ⊢
  have hl : lv_has ls 4 [(0, .ref a0), (1, .int i1), (2, .int i2), (3, .int i3)] := hl
  obtain ⟨hx, hb, hr, hml, hown, hts, hlocks, hK, hA⟩ := id C
  unfold fMain_secret at hf
  refine lv_aload_n hx hb dMain_secret_0 rfl (lv_at hl 0 rfl) ?_
  replace hf := g_bd hf
  obtain ⟨v_1, hv_1, hf⟩ := hf
  refine g_getI hx hb hts in_Main hown hK hW (ci := 8) (C := "SecretRows") (T := T_Main) (N := 14) rfl (k := 6) (by decide) (hts _ kw_87) (fun _ h9 => h9) hv_1 dMain_secret_1 ?_
  refine lv_aload_n hx hb dMain_secret_4 rfl (lv_at hl 0 rfl) ?_
  replace hf := g_bd hf
  obtain ⟨r_2, hr_2, hf⟩ := hf
  refine g_getR hx hb hts in_Main hown hK hW (ci := 8) (C := "SecretRows") (T := T_Main) (N := 14) rfl (k := 0) (by decide) (hts _ kw_81) (fun _ h9 => h9) hr_2 dMain_secret_5 ?_
  replace hf := g_bd hf
  obtain ⟨a_3, ea_3, hf⟩ := hf
  subst ea_3
  refine W.eq (g2 := F0 m 8 _ [.ref a_3, .int v_1]) rfl ?_
  replace hf := g_bd hf
  obtain ⟨v_4, hv_4, hf⟩ := hf
  refine g_alen hx hb hK hW hv_4 dMain_secret_8 ?_
  refine lv_icmp_lt (tgt := 14) hx hb dMain_secret_9 (by decide) (fun c_5 => ?_) (fun c_5 => ?_)
  · replace hf := g_it c_5 hf
    refine lv_aload_n hx hb dMain_secret_14 rfl (lv_at hl 0 rfl) ?_
    replace hf := g_bd hf
    obtain ⟨r_6, hr_6, hf⟩ := hf
    refine g_getR hx hb hts in_Main hown hK hW (ci := 8) (C := "SecretRows") (T := T_Main) (N := 14) rfl (k := 0) (by decide) (hts _ kw_81) (fun _ h9 => h9) hr_6 dMain_secret_15 ?_
    refine lv_aload_n hx hb dMain_secret_18 rfl (lv_at hl 0 rfl) ?_
    replace hf := g_bd hf
    obtain ⟨v_7, hv_7, hf⟩ := hf
    refine g_getI hx hb hts in_Main hown hK hW (ci := 8) (C := "SecretRows") (T := T_Main) (N := 14) rfl (k := 6) (by decide) (hts _ kw_87) (fun _ h9 => h9) hv_7 dMain_secret_19 ?_
    replace hf := g_bps hf
    obtain ⟨a_8, z_9, hz_9, hf⟩ := hf
    refine g_newO hx hb hts in_Secret ty_Secret tyok_Secret hown (hts _ kw_20) (hts _ kw_128) (hts _ kw_7) hK hW hS hA (ci := 2) (C := "SecretRows$Secret") (T := T_Secret) (N := 7) rfl (fun j hj => by rcases (show j = 0 ∨ j = 1 ∨ j = 2 ∨ j = 3 ∨ j = 4 ∨ j = 5 ∨ j = 6 by omega) with rfl | rfl | rfl | rfl | rfl | rfl | rfl <;> rfl) (Nat.le_of_ble_eq_true rfl) (Nat.le_of_ble_eq_true rfl) hz_9 dMain_secret_22 (fun H hW hS => ?_)
    refine W.cs (cells' := 1) (slots' := 7) rfl rfl ?_
    refine lv_dup hx hb dMain_secret_25 rfl ?_
    refine lv_iload_n hx hb dMain_secret_26 rfl (lv_at hl 1 rfl) ?_
    refine lv_iload_n hx hb dMain_secret_27 rfl (lv_at hl 2 rfl) ?_
    refine lv_iload_n hx hb dMain_secret_28 rfl (lv_at hl 3 rfl) ?_
    replace hf := g_bd hf
    obtain ⟨z_10, hz_10, hf⟩ := hf
    refine g_gov (g_rI (As := [.int i1, .int i2, .int i3]) (rest := [.ref a_8, .int v_7, va_rf r_6]) ⟨hx, hb, hml, hown, hts⟩ (mSecret_init l D A n _ _ a_8 i1 i2 i3 hz_10) (cwI 3 hts (gi_I kw_131) rfl rfl rfl (hts _ kw_7) (hts _ kw_129) (hts _ kw_130) rfl hdSecret_init ⟨Nat.le_of_ble_eq_true rfl, Nat.le_of_ble_eq_true rfl⟩) hK hW hS hA rfl hl.1 rfl (by simp only [List.map_cons, List.map_nil, g_cat]; exact Nat.le_of_ble_eq_true rfl) dMain_secret_29 ⟨Nat.le_of_ble_eq_true rfl, Nat.le_of_ble_eq_true rfl⟩) hS (fun H locs hW hS => ?_)
    replace hf := g_bd hf
    obtain ⟨a_11, ea_11, hf⟩ := hf
    subst ea_11
    refine W.eq (g2 := F0 m 32 _ [.ref a_8, .int v_7, .ref a_11]) rfl ?_
    replace hf := g_bd hf
    obtain ⟨_, hz_12i, hf⟩ := hf
    replace hf := g_bd hf
    obtain ⟨z_12, hz_12, hf⟩ := hf
    refine g_ast_r (r := ("SecretRows$Secret", T_Secret, 7)) (ci := 2) hx hb hK hW hS rfl hz_12i hz_12 dMain_secret_32 (fun H locs hW hS => ?_)
    refine lv_aload_n hx hb dMain_secret_33 rfl (lv_at hl 0 rfl) ?_
    refine lv_dup hx hb dMain_secret_34 rfl ?_
    replace hf := g_bd hf
    obtain ⟨v_13, hv_13, hf⟩ := hf
    refine g_getI hx hb hts in_Main hown hK hW (ci := 8) (C := "SecretRows") (T := T_Main) (N := 14) rfl (k := 6) (by decide) (hts _ kw_87) (fun _ h9 => h9) hv_13 dMain_secret_35 ?_
    refine lv_iconst (v := 1) hx hb dMain_secret_38 (by decide) ?_
    refine lv_iadd hx hb dMain_secret_39 ?_
    replace hf := g_bd hf
    obtain ⟨z_14, hz_14, hf⟩ := hf
    refine g_put hx hb hts in_Main ty_Main tyok_Main nm_Main hown hK hW hS (ci := 8) (C := "SecretRows") (T := T_Main) (N := 14) rfl (k := 6) (by decide) (hts _ kw_87) (fun _ h9 => h9) rfl (ty := .int) (by decide +kernel) rfl rfl hz_14 dMain_secret_40 (fun H locs hW hS => ?_)
    refine lv_aload_n hx hb dMain_secret_43 rfl (lv_at hl 0 rfl) ?_
    replace hf := g_bd hf
    obtain ⟨v_15, hv_15, hf⟩ := hf
    refine g_getI hx hb hts in_Main hown hK hW (ci := 8) (C := "SecretRows") (T := T_Main) (N := 14) rfl (k := 6) (by decide) (hts _ kw_87) (fun _ h9 => h9) hv_15 dMain_secret_44 ?_
    refine lv_iconst (v := 1) hx hb dMain_secret_47 (by decide) ?_
    refine lv_isub hx hb dMain_secret_48 ?_
    cases hf
    exact g_reti hx hb hr hlocks hW hS (Nat.le_of_ble_eq_true rfl) (Nat.le_of_ble_eq_true rfl) dMain_secret_49
  · replace hf := g_if c_5 hf
    refine lv_iconst (v := (-1)) hx hb dMain_secret_12 (by decide) ?_
    cases hf
    exact g_reti hx hb hr hlocks hW hS (Nat.le_of_ble_eq_true rfl) (Nat.le_of_ble_eq_true rfl) dMain_secret_13

def fText_add (n : Nat) (a0 : Nat) (i1 : Int32) (z : gS) : Option (Int32 × gS) :=
    (g_fI z a0 0 1).bind fun v_1 =>
    (g_fR z a0 0 0).bind fun r_2 =>
    r_2.bind fun a_3 =>
    (g_len z a_3).bind fun v_4 =>
    if v_1 < v_4 then (
    (g_fR z a0 0 0).bind fun r_6 =>
    (g_fI z a0 0 1).bind fun v_7 =>
    r_6.bind fun a_8 =>
    (g_stI z .char a_8 v_7 (vp_nar .char ((i1.toUInt32 % 65536).toInt32))).bind fun z_9 =>
    (g_fI z_9 a0 0 1).bind fun v_10 =>
    (g_pF z_9 a0 0 1 (.int (v_10 + 1))).bind fun z_11 =>
    some (1, z_11))
    else (
    some (0, z))
set_option maxHeartbeats 4000000 in
set_option maxRecDepth 100000 in
theorem mText_add (l : Launch) (D : va_G) (A : Nat → Prop) (n : Nat) (z z' : gS) (a0 : Nat) (i1 : Int32) (r : Int32) (hf : fText_add n a0 i1 z = some (r, z')) : Met l yText_add wsText_add ({ frames := 0, cells := 0, slots := 0, locals := 0 }) (g_P D vwCl gNN gOO A z [.ref a0, .int i1]) (g_Qi D vwCl A r z') 0 0 A := by
  refine Met.ofW (cc := cText_add) (maxL := 2) (ret := (some .boolean)) (by decide) rfl ?_
  intro p e s m args below meth c s₁ B hml hv
  obtain ⟨rfl, hW, hK, hA0⟩ := hv
  have C : g_C p s m meth c _ cText_add 2 (some .boolean) "SecretRows$Text" gW D vwCl gNN gOO A := ⟨B.exec, B.bytes, B.returns, hml, findClass_of_methodNamed B.named, fun w hw => atoms_spec (ws := wsText_add) B.pre w (List.mem_cons_of_mem _ hw), B.notSynchronized, hK, fun q hq => hA0 q (by rw [← hW.1]; exact hq)⟩
  have hS : va_S A s.heap s.heap [] := va_S.rf
  have hl := lv_entry ([.ref a0, .int i1]) (n := 2) (Nat.le_of_ble_eq_true rfl)
  rw [lg_entry_eq]
  generalize (lg_sl ([.ref a0, .int i1]) ++ List.replicate (2 - (lg_sl ([.ref a0, .int i1])).length) Slot.unset).toArray = ls at hl ⊢
  have hl : lv_has ls 2 [(0, .ref a0), (1, .int i1)] := hl
  obtain ⟨hx, hb, hr, hml, hown, hts, hlocks, hK, hA⟩ := id C
  unfold fText_add at hf
  refine lv_aload_n hx hb dText_add_0 rfl (lv_at hl 0 rfl) ?_
  replace hf := g_bd hf
  obtain ⟨v_1, hv_1, hf⟩ := hf
  refine g_getI hx hb hts in_Text hown hK hW (ci := 0) (C := "SecretRows$Text") (T := T_Text) (N := 2) rfl (k := 1) (by decide) (hts _ kw_50) (fun _ h9 => h9) hv_1 dText_add_1 ?_
  refine lv_aload_n hx hb dText_add_4 rfl (lv_at hl 0 rfl) ?_
  replace hf := g_bd hf
  obtain ⟨r_2, hr_2, hf⟩ := hf
  refine g_getR hx hb hts in_Text hown hK hW (ci := 0) (C := "SecretRows$Text") (T := T_Text) (N := 2) rfl (k := 0) (by decide) (hts _ kw_49) (fun _ h9 => h9) hr_2 dText_add_5 ?_
  replace hf := g_bd hf
  obtain ⟨a_3, ea_3, hf⟩ := hf
  subst ea_3
  refine W.eq (g2 := F0 m 8 _ [.ref a_3, .int v_1]) rfl ?_
  replace hf := g_bd hf
  obtain ⟨v_4, hv_4, hf⟩ := hf
  refine g_alen hx hb hK hW hv_4 dText_add_8 ?_
  refine lv_icmp_lt (tgt := 14) hx hb dText_add_9 (by decide) (fun c_5 => ?_) (fun c_5 => ?_)
  · replace hf := g_it c_5 hf
    refine lv_aload_n hx hb dText_add_14 rfl (lv_at hl 0 rfl) ?_
    replace hf := g_bd hf
    obtain ⟨r_6, hr_6, hf⟩ := hf
    refine g_getR hx hb hts in_Text hown hK hW (ci := 0) (C := "SecretRows$Text") (T := T_Text) (N := 2) rfl (k := 0) (by decide) (hts _ kw_49) (fun _ h9 => h9) hr_6 dText_add_15 ?_
    refine lv_aload_n hx hb dText_add_18 rfl (lv_at hl 0 rfl) ?_
    replace hf := g_bd hf
    obtain ⟨v_7, hv_7, hf⟩ := hf
    refine g_getI hx hb hts in_Text hown hK hW (ci := 0) (C := "SecretRows$Text") (T := T_Text) (N := 2) rfl (k := 1) (by decide) (hts _ kw_50) (fun _ h9 => h9) hv_7 dText_add_19 ?_
    refine lv_iload_n hx hb dText_add_22 rfl (lv_at hl 1 rfl) ?_
    refine lv_i2c (v := (i1.toUInt32 % 65536).toInt32) hx hb dText_add_23 rfl ?_
    replace hf := g_bd hf
    obtain ⟨a_8, ea_8, hf⟩ := hf
    subst ea_8
    refine W.eq (g2 := F0 m 24 _ [.int ((i1.toUInt32 % 65536).toInt32), .int v_7, .ref a_8]) rfl ?_
    replace hf := g_bd hf
    obtain ⟨z_9, hz_9, hf⟩ := hf
    refine g_ast_c hx hb hW hS hz_9 dText_add_24 (fun H locs hW hS => ?_)
    refine lv_aload_n hx hb dText_add_25 rfl (lv_at hl 0 rfl) ?_
    refine lv_dup hx hb dText_add_26 rfl ?_
    replace hf := g_bd hf
    obtain ⟨v_10, hv_10, hf⟩ := hf
    refine g_getI hx hb hts in_Text hown hK hW (ci := 0) (C := "SecretRows$Text") (T := T_Text) (N := 2) rfl (k := 1) (by decide) (hts _ kw_50) (fun _ h9 => h9) hv_10 dText_add_27 ?_
    refine lv_iconst (v := 1) hx hb dText_add_30 (by decide) ?_
    refine lv_iadd hx hb dText_add_31 ?_
    replace hf := g_bd hf
    obtain ⟨z_11, hz_11, hf⟩ := hf
    refine g_put hx hb hts in_Text ty_Text tyok_Text nm_Text hown hK hW hS (ci := 0) (C := "SecretRows$Text") (T := T_Text) (N := 2) rfl (k := 1) (by decide) (hts _ kw_50) (fun _ h9 => h9) rfl (ty := .int) (by decide +kernel) rfl rfl hz_11 dText_add_32 (fun H locs hW hS => ?_)
    refine lv_iconst (v := 1) hx hb dText_add_35 (by decide) ?_
    cases hf
    exact g_retz hx hb hr rfl hlocks hW hS (Nat.le_of_ble_eq_true rfl) (Nat.le_of_ble_eq_true rfl) dText_add_36
  · replace hf := g_if c_5 hf
    refine lv_iconst (v := 0) hx hb dText_add_12 (by decide) ?_
    cases hf
    exact g_retz hx hb hr rfl hlocks hW hS (Nat.le_of_ble_eq_true rfl) (Nat.le_of_ble_eq_true rfl) dText_add_13

def fMain_type (n : Nat) (a0 : Nat) (i1 : Int32) (z : gS) : Option (Int32 × gS) :=
    if i1 < 32 then (
    some (0, z))
    else (
    if 126 < i1 then (
    some (0, z))
    else (
    (g_fR z a0 8 4).bind fun r_3 =>
    r_3.bind fun a_4 =>
    (g_is z a_4 0).bind fun _ =>
    g_bp (fText_add n a_4 i1 z) fun v_7 z_6 =>
    if v_7 = 0 then (
    some (0, z_6))
    else (
    some (1, z_6))))
set_option maxHeartbeats 4000000 in
set_option maxRecDepth 100000 in
theorem mMain_type (l : Launch) (D : va_G) (A : Nat → Prop) (n : Nat) (z z' : gS) (a0 : Nat) (i1 : Int32) (r : Int32) (hf : fMain_type n a0 i1 z = some (r, z')) : Met l yMain_type wsMain_type ({ frames := 1, cells := 0, slots := 0, locals := 21 }) (g_P D vwCl gNN gOO A z [.ref a0, .int i1]) (g_Qi D vwCl A r z') 0 0 A := by
  refine Met.ofW (cc := cMain_type) (maxL := 2) (ret := (some .boolean)) (by decide) rfl ?_
  intro p e s m args below meth c s₁ B hml hv
  obtain ⟨rfl, hW, hK, hA0⟩ := hv
  have C : g_C p s m meth c _ cMain_type 2 (some .boolean) "SecretRows" gW D vwCl gNN gOO A := ⟨B.exec, B.bytes, B.returns, hml, findClass_of_methodNamed B.named, fun w hw => atoms_spec (ws := wsMain_type) B.pre w (List.mem_cons_of_mem _ hw), B.notSynchronized, hK, fun q hq => hA0 q (by rw [← hW.1]; exact hq)⟩
  have hS : va_S A s.heap s.heap [] := va_S.rf
  have hl := lv_entry ([.ref a0, .int i1]) (n := 2) (Nat.le_of_ble_eq_true rfl)
  rw [lg_entry_eq]
  generalize (lg_sl ([.ref a0, .int i1]) ++ List.replicate (2 - (lg_sl ([.ref a0, .int i1])).length) Slot.unset).toArray = ls at hl ⊢
  have hl : lv_has ls 2 [(0, .ref a0), (1, .int i1)] := hl
  obtain ⟨hx, hb, hr, hml, hown, hts, hlocks, hK, hA⟩ := id C
  unfold fMain_type at hf
  refine lv_iload_n hx hb dMain_type_0 rfl (lv_at hl 1 rfl) ?_
  refine lv_bipush (v := 32) hx hb dMain_type_1 (by decide) ?_
  refine lv_icmp_lt (tgt := 27) hx hb dMain_type_3 (by decide) (fun c_1 => ?_) (fun c_1 => ?_)
  · replace hf := g_it c_1 hf
    refine lv_iconst (v := 0) hx hb dMain_type_27 (by decide) ?_
    cases hf
    exact g_retz hx hb hr rfl hlocks hW hS (Nat.le_of_ble_eq_true rfl) (Nat.le_of_ble_eq_true rfl) dMain_type_28
  · replace hf := g_if c_1 hf
    refine lv_iload_n hx hb dMain_type_6 rfl (lv_at hl 1 rfl) ?_
    refine lv_bipush (v := 126) hx hb dMain_type_7 (by decide) ?_
    refine lv_icmp_gt (tgt := 27) hx hb dMain_type_9 (by decide) (fun c_2 => ?_) (fun c_2 => ?_)
    · replace hf := g_it c_2 hf
      refine lv_iconst (v := 0) hx hb dMain_type_27 (by decide) ?_
      cases hf
      exact g_retz hx hb hr rfl hlocks hW hS (Nat.le_of_ble_eq_true rfl) (Nat.le_of_ble_eq_true rfl) dMain_type_28
    · replace hf := g_if c_2 hf
      refine lv_aload_n hx hb dMain_type_12 rfl (lv_at hl 0 rfl) ?_
      replace hf := g_bd hf
      obtain ⟨r_3, hr_3, hf⟩ := hf
      refine g_getR hx hb hts in_Main hown hK hW (ci := 8) (C := "SecretRows") (T := T_Main) (N := 14) rfl (k := 4) (by decide) (hts _ kw_85) (fun _ h9 => h9) hr_3 dMain_type_13 ?_
      refine lv_iload_n hx hb dMain_type_16 rfl (lv_at hl 1 rfl) ?_
      replace hf := g_bd hf
      obtain ⟨a_4, ea_4, hf⟩ := hf
      subst ea_4
      refine W.eq (g2 := F0 m 17 _ [.int i1, .ref a_4]) rfl ?_
      replace hf := g_bd hf
      obtain ⟨_, hi_5, hf⟩ := hf
      replace hf := g_bps hf
      obtain ⟨v_7, z_6, hz_6, hf⟩ := hf
      refine g_goi (g_rV (As := [.int i1]) (rest := []) ⟨hx, hb, hml, hown, hts⟩ (mText_add l D A n _ _ a_4 i1 _ hz_6) (cwV 1 hts (gi_V kw_162 kw_163 kw_164 kw_3 kw_165) rfl rfl rfl ⟨rfl, hdText_add⟩ ⟨Nat.le_of_ble_eq_true rfl, Nat.le_of_ble_eq_true rfl⟩) hK hW hS hA (ci := 0) (T := T_Text) (N := 2) rfl hi_5 rfl hl.1 rfl (Nat.le_of_ble_eq_true rfl) dMain_type_17 ⟨Nat.le_of_ble_eq_true rfl, Nat.le_of_ble_eq_true rfl⟩) hS (fun H locs hW hS => ?_)
      refine lv_if_eq (tgt := 27) hx hb dMain_type_20 (by decide) (fun c_8 => ?_) (fun c_8 => ?_)
      · replace hf := g_it c_8 hf
        refine lv_iconst (v := 0) hx hb dMain_type_27 (by decide) ?_
        cases hf
        exact g_retz hx hb hr rfl hlocks hW hS (Nat.le_of_ble_eq_true rfl) (Nat.le_of_ble_eq_true rfl) dMain_type_28
      · replace hf := g_if c_8 hf
        refine lv_iconst (v := 1) hx hb dMain_type_23 (by decide) ?_
        refine lv_goto (tgt := 28) hx hb dMain_type_24 (by decide) ?_
        cases hf
        exact g_retz hx hb hr rfl hlocks hW hS (Nat.le_of_ble_eq_true rfl) (Nat.le_of_ble_eq_true rfl) dMain_type_28

def fMain_findSecret (n : Nat) (a0 : Nat) (i1 : Int32) (z : gS) : Option (Option Nat × gS) :=
    if i1 < 0 then (
    some (none, z))
    else (
    (g_fI z a0 8 6).bind fun v_2 =>
    if v_2 ≤ i1 then (
    some (none, z))
    else (
    (g_fR z a0 8 0).bind fun r_4 =>
    r_4.bind fun a_5 =>
    (g_len z a_5).bind fun v_6 =>
    if i1 < v_6 then (
    (g_fR z a0 8 0).bind fun r_8 =>
    r_8.bind fun a_9 =>
    (g_ldR z (.object "SecretRows$Secret") a_9 i1).bind fun r_10 =>
    some (r_10, z))
    else (
    some (none, z))))
set_option maxHeartbeats 4000000 in
set_option maxRecDepth 100000 in
theorem mMain_findSecret (l : Launch) (D : va_G) (A : Nat → Prop) (n : Nat) (z z' : gS) (a0 : Nat) (i1 : Int32) (r : Option Nat) (hf : fMain_findSecret n a0 i1 z = some (r, z')) : Met l yMain_findSecret wsMain_findSecret ({ frames := 0, cells := 0, slots := 0, locals := 0 }) (g_P D vwCl gNN gOO A z [.ref a0, .int i1]) (g_Qq D vwCl A r z') 0 0 A := by
  refine Met.ofW (cc := cMain_findSecret) (maxL := 2) (ret := (some (.object "SecretRows$Secret"))) (by decide) rfl ?_
  intro p e s m args below meth c s₁ B hml hv
  obtain ⟨rfl, hW, hK, hA0⟩ := hv
  have C : g_C p s m meth c _ cMain_findSecret 2 (some (.object "SecretRows$Secret")) "SecretRows" gW D vwCl gNN gOO A := ⟨B.exec, B.bytes, B.returns, hml, findClass_of_methodNamed B.named, fun w hw => atoms_spec (ws := wsMain_findSecret) B.pre w (List.mem_cons_of_mem _ hw), B.notSynchronized, hK, fun q hq => hA0 q (by rw [← hW.1]; exact hq)⟩
  have hS : va_S A s.heap s.heap [] := va_S.rf
  have hl := lv_entry ([.ref a0, .int i1]) (n := 2) (Nat.le_of_ble_eq_true rfl)
  rw [lg_entry_eq]
  generalize (lg_sl ([.ref a0, .int i1]) ++ List.replicate (2 - (lg_sl ([.ref a0, .int i1])).length) Slot.unset).toArray = ls at hl ⊢
  have hl : lv_has ls 2 [(0, .ref a0), (1, .int i1)] := hl
  obtain ⟨hx, hb, hr, hml, hown, hts, hlocks, hK, hA⟩ := id C
  unfold fMain_findSecret at hf
  refine lv_iload_n hx hb dMain_findSecret_0 rfl (lv_at hl 1 rfl) ?_
  refine lv_if_lt (tgt := 21) hx hb dMain_findSecret_1 (by decide) (fun c_1 => ?_) (fun c_1 => ?_)
  · replace hf := g_it c_1 hf
    refine lv_null hx hb dMain_findSecret_21 ?_
    refine lv_goto (tgt := 31) hx hb dMain_findSecret_22 (by decide) ?_
    cases hf
    exact g_reta (v := none) hx hb hr (Or.inl ⟨_, rfl⟩) hlocks hW hS (Nat.le_of_ble_eq_true rfl) (Nat.le_of_ble_eq_true rfl) dMain_findSecret_31
  · replace hf := g_if c_1 hf
    refine lv_iload_n hx hb dMain_findSecret_4 rfl (lv_at hl 1 rfl) ?_
    refine lv_aload_n hx hb dMain_findSecret_5 rfl (lv_at hl 0 rfl) ?_
    replace hf := g_bd hf
    obtain ⟨v_2, hv_2, hf⟩ := hf
    refine g_getI hx hb hts in_Main hown hK hW (ci := 8) (C := "SecretRows") (T := T_Main) (N := 14) rfl (k := 6) (by decide) (hts _ kw_87) (fun _ h9 => h9) hv_2 dMain_findSecret_6 ?_
    refine lv_icmp_ge (tgt := 21) hx hb dMain_findSecret_9 (by decide) (fun c_3 => ?_) (fun c_3 => ?_)
    · replace hf := g_it c_3 hf
      refine lv_null hx hb dMain_findSecret_21 ?_
      refine lv_goto (tgt := 31) hx hb dMain_findSecret_22 (by decide) ?_
      cases hf
      exact g_reta (v := none) hx hb hr (Or.inl ⟨_, rfl⟩) hlocks hW hS (Nat.le_of_ble_eq_true rfl) (Nat.le_of_ble_eq_true rfl) dMain_findSecret_31
    · replace hf := g_if c_3 hf
      refine lv_iload_n hx hb dMain_findSecret_12 rfl (lv_at hl 1 rfl) ?_
      refine lv_aload_n hx hb dMain_findSecret_13 rfl (lv_at hl 0 rfl) ?_
      replace hf := g_bd hf
      obtain ⟨r_4, hr_4, hf⟩ := hf
      refine g_getR hx hb hts in_Main hown hK hW (ci := 8) (C := "SecretRows") (T := T_Main) (N := 14) rfl (k := 0) (by decide) (hts _ kw_81) (fun _ h9 => h9) hr_4 dMain_findSecret_14 ?_
      replace hf := g_bd hf
      obtain ⟨a_5, ea_5, hf⟩ := hf
      subst ea_5
      refine W.eq (g2 := F0 m 17 _ [.ref a_5, .int i1]) rfl ?_
      replace hf := g_bd hf
      obtain ⟨v_6, hv_6, hf⟩ := hf
      refine g_alen hx hb hK hW hv_6 dMain_findSecret_17 ?_
      refine lv_icmp_lt (tgt := 25) hx hb dMain_findSecret_18 (by decide) (fun c_7 => ?_) (fun c_7 => ?_)
      · replace hf := g_it c_7 hf
        refine lv_aload_n hx hb dMain_findSecret_25 rfl (lv_at hl 0 rfl) ?_
        replace hf := g_bd hf
        obtain ⟨r_8, hr_8, hf⟩ := hf
        refine g_getR hx hb hts in_Main hown hK hW (ci := 8) (C := "SecretRows") (T := T_Main) (N := 14) rfl (k := 0) (by decide) (hts _ kw_81) (fun _ h9 => h9) hr_8 dMain_findSecret_26 ?_
        refine lv_iload_n hx hb dMain_findSecret_29 rfl (lv_at hl 1 rfl) ?_
        replace hf := g_bd hf
        obtain ⟨a_9, ea_9, hf⟩ := hf
        subst ea_9
        refine W.eq (g2 := F0 m 30 _ [.int i1, .ref a_9]) rfl ?_
        replace hf := g_bd hf
        obtain ⟨r_10, hr_10, hf⟩ := hf
        refine g_ald_r hx hb hK hW hr_10 dMain_findSecret_30 ?_
        cases hf
        exact g_reta (v := _) hx hb hr (Or.inl ⟨_, rfl⟩) hlocks hW hS (Nat.le_of_ble_eq_true rfl) (Nat.le_of_ble_eq_true rfl) dMain_findSecret_31
      · replace hf := g_if c_7 hf
        refine lv_null hx hb dMain_findSecret_21 ?_
        refine lv_goto (tgt := 31) hx hb dMain_findSecret_22 (by decide) ?_
        cases hf
        exact g_reta (v := none) hx hb hr (Or.inl ⟨_, rfl⟩) hlocks hW hS (Nat.le_of_ble_eq_true rfl) (Nat.le_of_ble_eq_true rfl) dMain_findSecret_31

def fText_length (n : Nat) (a0 : Nat) (z : gS) : Option (Int32 × gS) :=
    (g_fI z a0 0 1).bind fun v_1 =>
    some (v_1, z)
set_option maxHeartbeats 4000000 in
set_option maxRecDepth 100000 in
theorem mText_length (l : Launch) (D : va_G) (A : Nat → Prop) (n : Nat) (z z' : gS) (a0 : Nat) (r : Int32) (hf : fText_length n a0 z = some (r, z')) : Met l yText_length wsText_length ({ frames := 0, cells := 0, slots := 0, locals := 0 }) (g_P D vwCl gNN gOO A z [.ref a0]) (g_Qi D vwCl A r z') 0 0 A := by
  refine Met.ofW (cc := cText_length) (maxL := 1) (ret := (some .int)) (by decide) rfl ?_
  intro p e s m args below meth c s₁ B hml hv
  obtain ⟨rfl, hW, hK, hA0⟩ := hv
  have C : g_C p s m meth c _ cText_length 1 (some .int) "SecretRows$Text" gW D vwCl gNN gOO A := ⟨B.exec, B.bytes, B.returns, hml, findClass_of_methodNamed B.named, fun w hw => atoms_spec (ws := wsText_length) B.pre w (List.mem_cons_of_mem _ hw), B.notSynchronized, hK, fun q hq => hA0 q (by rw [← hW.1]; exact hq)⟩
  have hS : va_S A s.heap s.heap [] := va_S.rf
  have hl := lv_entry ([.ref a0]) (n := 1) (Nat.le_of_ble_eq_true rfl)
  rw [lg_entry_eq]
  generalize (lg_sl ([.ref a0]) ++ List.replicate (1 - (lg_sl ([.ref a0])).length) Slot.unset).toArray = ls at hl ⊢
  have hl : lv_has ls 1 [(0, .ref a0)] := hl
  obtain ⟨hx, hb, hr, hml, hown, hts, hlocks, hK, hA⟩ := id C
  unfold fText_length at hf
  refine lv_aload_n hx hb dText_length_0 rfl (lv_at hl 0 rfl) ?_
  replace hf := g_bd hf
  obtain ⟨v_1, hv_1, hf⟩ := hf
  refine g_getI hx hb hts in_Text hown hK hW (ci := 0) (C := "SecretRows$Text") (T := T_Text) (N := 2) rfl (k := 1) (by decide) (hts _ kw_50) (fun _ h9 => h9) hv_1 dText_length_1 ?_
  cases hf
  exact g_reti hx hb hr hlocks hW hS (Nat.le_of_ble_eq_true rfl) (Nat.le_of_ble_eq_true rfl) dText_length_4

def fText_at (n : Nat) (a0 : Nat) (i1 : Int32) (z : gS) : Option (Int32 × gS) :=
    if i1 < 0 then (
    some ((-1), z))
    else (
    (g_fI z a0 0 1).bind fun v_2 =>
    if v_2 ≤ i1 then (
    some ((-1), z))
    else (
    (g_fR z a0 0 0).bind fun r_4 =>
    r_4.bind fun a_5 =>
    (g_len z a_5).bind fun v_6 =>
    if i1 < v_6 then (
    (g_fR z a0 0 0).bind fun r_8 =>
    r_8.bind fun a_9 =>
    (g_ldI z .char a_9 i1).bind fun v_10 =>
    some (v_10, z))
    else (
    some ((-1), z))))
set_option maxHeartbeats 4000000 in
set_option maxRecDepth 100000 in
theorem mText_at (l : Launch) (D : va_G) (A : Nat → Prop) (n : Nat) (z z' : gS) (a0 : Nat) (i1 : Int32) (r : Int32) (hf : fText_at n a0 i1 z = some (r, z')) : Met l yText_at wsText_at ({ frames := 0, cells := 0, slots := 0, locals := 0 }) (g_P D vwCl gNN gOO A z [.ref a0, .int i1]) (g_Qi D vwCl A r z') 0 0 A := by
  refine Met.ofW (cc := cText_at) (maxL := 2) (ret := (some .int)) (by decide) rfl ?_
  intro p e s m args below meth c s₁ B hml hv
  obtain ⟨rfl, hW, hK, hA0⟩ := hv
  have C : g_C p s m meth c _ cText_at 2 (some .int) "SecretRows$Text" gW D vwCl gNN gOO A := ⟨B.exec, B.bytes, B.returns, hml, findClass_of_methodNamed B.named, fun w hw => atoms_spec (ws := wsText_at) B.pre w (List.mem_cons_of_mem _ hw), B.notSynchronized, hK, fun q hq => hA0 q (by rw [← hW.1]; exact hq)⟩
  have hS : va_S A s.heap s.heap [] := va_S.rf
  have hl := lv_entry ([.ref a0, .int i1]) (n := 2) (Nat.le_of_ble_eq_true rfl)
  rw [lg_entry_eq]
  generalize (lg_sl ([.ref a0, .int i1]) ++ List.replicate (2 - (lg_sl ([.ref a0, .int i1])).length) Slot.unset).toArray = ls at hl ⊢
  have hl : lv_has ls 2 [(0, .ref a0), (1, .int i1)] := hl
  obtain ⟨hx, hb, hr, hml, hown, hts, hlocks, hK, hA⟩ := id C
  unfold fText_at at hf
  refine lv_iload_n hx hb dText_at_0 rfl (lv_at hl 1 rfl) ?_
  refine lv_if_lt (tgt := 21) hx hb dText_at_1 (by decide) (fun c_1 => ?_) (fun c_1 => ?_)
  · replace hf := g_it c_1 hf
    refine lv_iconst (v := (-1)) hx hb dText_at_21 (by decide) ?_
    refine lv_goto (tgt := 31) hx hb dText_at_22 (by decide) ?_
    cases hf
    exact g_reti hx hb hr hlocks hW hS (Nat.le_of_ble_eq_true rfl) (Nat.le_of_ble_eq_true rfl) dText_at_31
  · replace hf := g_if c_1 hf
    refine lv_iload_n hx hb dText_at_4 rfl (lv_at hl 1 rfl) ?_
    refine lv_aload_n hx hb dText_at_5 rfl (lv_at hl 0 rfl) ?_
    replace hf := g_bd hf
    obtain ⟨v_2, hv_2, hf⟩ := hf
    refine g_getI hx hb hts in_Text hown hK hW (ci := 0) (C := "SecretRows$Text") (T := T_Text) (N := 2) rfl (k := 1) (by decide) (hts _ kw_50) (fun _ h9 => h9) hv_2 dText_at_6 ?_
    refine lv_icmp_ge (tgt := 21) hx hb dText_at_9 (by decide) (fun c_3 => ?_) (fun c_3 => ?_)
    · replace hf := g_it c_3 hf
      refine lv_iconst (v := (-1)) hx hb dText_at_21 (by decide) ?_
      refine lv_goto (tgt := 31) hx hb dText_at_22 (by decide) ?_
      cases hf
      exact g_reti hx hb hr hlocks hW hS (Nat.le_of_ble_eq_true rfl) (Nat.le_of_ble_eq_true rfl) dText_at_31
    · replace hf := g_if c_3 hf
      refine lv_iload_n hx hb dText_at_12 rfl (lv_at hl 1 rfl) ?_
      refine lv_aload_n hx hb dText_at_13 rfl (lv_at hl 0 rfl) ?_
      replace hf := g_bd hf
      obtain ⟨r_4, hr_4, hf⟩ := hf
      refine g_getR hx hb hts in_Text hown hK hW (ci := 0) (C := "SecretRows$Text") (T := T_Text) (N := 2) rfl (k := 0) (by decide) (hts _ kw_49) (fun _ h9 => h9) hr_4 dText_at_14 ?_
      replace hf := g_bd hf
      obtain ⟨a_5, ea_5, hf⟩ := hf
      subst ea_5
      refine W.eq (g2 := F0 m 17 _ [.ref a_5, .int i1]) rfl ?_
      replace hf := g_bd hf
      obtain ⟨v_6, hv_6, hf⟩ := hf
      refine g_alen hx hb hK hW hv_6 dText_at_17 ?_
      refine lv_icmp_lt (tgt := 25) hx hb dText_at_18 (by decide) (fun c_7 => ?_) (fun c_7 => ?_)
      · replace hf := g_it c_7 hf
        refine lv_aload_n hx hb dText_at_25 rfl (lv_at hl 0 rfl) ?_
        replace hf := g_bd hf
        obtain ⟨r_8, hr_8, hf⟩ := hf
        refine g_getR hx hb hts in_Text hown hK hW (ci := 0) (C := "SecretRows$Text") (T := T_Text) (N := 2) rfl (k := 0) (by decide) (hts _ kw_49) (fun _ h9 => h9) hr_8 dText_at_26 ?_
        refine lv_iload_n hx hb dText_at_29 rfl (lv_at hl 1 rfl) ?_
        replace hf := g_bd hf
        obtain ⟨a_9, ea_9, hf⟩ := hf
        subst ea_9
        refine W.eq (g2 := F0 m 30 _ [.int i1, .ref a_9]) rfl ?_
        replace hf := g_bd hf
        obtain ⟨v_10, hv_10, hf⟩ := hf
        refine g_ald_c hx hb hK hW hv_10 dText_at_30 ?_
        cases hf
        exact g_reti hx hb hr hlocks hW hS (Nat.le_of_ble_eq_true rfl) (Nat.le_of_ble_eq_true rfl) dText_at_31
      · replace hf := g_if c_7 hf
        refine lv_iconst (v := (-1)) hx hb dText_at_21 (by decide) ?_
        refine lv_goto (tgt := 31) hx hb dText_at_22 (by decide) ?_
        cases hf
        exact g_reti hx hb hr hlocks hW hS (Nat.le_of_ble_eq_true rfl) (Nat.le_of_ble_eq_true rfl) dText_at_31

def fText_has_L2 (n : Nat) : Nat → Nat → Int32 → Int32 → gS → Option (Int32 × gS)
  | 0, _, _, _, _ => none
  | k + 1, a0b, i1b, i2b, z =>
    (g_fI z a0b 0 1).bind fun v_1 =>
    if v_1 ≤ i2b then (
    some (0, z))
    else (
    (g_is z a0b 0).bind fun _ =>
    g_bp (fText_at n a0b i2b z) fun v_5 z_4 =>
    if v_5 = i1b then (
    some (1, z_4))
    else (
    fText_has_L2 n k a0b i1b (i2b + 1) z_4))
set_option maxHeartbeats 4000000 in
set_option maxRecDepth 100000 in
theorem bText_has_2 {p : Program} {l : Launch} {e : Env} {s : State} {m : MethodId} {args : Array Value} {below : List Frame} {meth : Method} {c : Code} {D : va_G} {A : Nat → Prop} (C : g_C p s m meth c args cText_has 3 (some .boolean) "SecretRows$Text" gW D vwCl gNN gOO A) (n : Nat) {r : Int32} {z' : gS} : ∀ k : Nat, ∀ (a0b : Nat) (i1b : Int32) (i2b : Int32) (z : gS) (H : Heap) (locs : List Loc) (ls : Array Slot), fText_has_L2 n k a0b i1b i2b z = some (r, z') → g_W D vwCl A z s H → va_S A s.heap H locs → lv_has ls 3 [(0, .ref a0b), (1, .int i1b), (2, .int i2b)] → W p l e (headSpec wsText_has ({ frames := 1, cells := 0, slots := 0, locals := 21 })).room s m args below meth c H locs 0 0 (MQ below (g_Qi D vwCl A r z') args s 0 0 A) (F0 m 2 ls []) := by
  obtain ⟨hx, hb, hr, hml, hown, hts, hlocks, hK, hA⟩ := id C
  intro k
  induction k with
  | zero =>
    intro a0b i1b i2b z H locs ls hf
    have hf : (none : Option (Int32 × gS)) = some _ := hf
    cases hf
  | succ k ih =>
    intro a0b i1b i2b z H locs ls hf hW hS hl
    rw [fText_has_L2] at hf
    refine lv_iload_n hx hb dText_has_2 rfl (lv_at hl 2 rfl) ?_
    refine lv_aload_n hx hb dText_has_3 rfl (lv_at hl 0 rfl) ?_
    replace hf := g_bd hf
    obtain ⟨v_1, hv_1, hf⟩ := hf
    refine g_getI hx hb hts in_Text hown hK hW (ci := 0) (C := "SecretRows$Text") (T := T_Text) (N := 2) rfl (k := 1) (by decide) (hts _ kw_50) (fun _ h9 => h9) hv_1 dText_has_4 ?_
    refine lv_icmp_ge (tgt := 27) hx hb dText_has_7 (by decide) (fun c_2 => ?_) (fun c_2 => ?_)
    · replace hf := g_it c_2 hf
      refine lv_iconst (v := 0) hx hb dText_has_27 (by decide) ?_
      cases hf
      exact g_retz hx hb hr rfl hlocks hW hS (Nat.le_of_ble_eq_true rfl) (Nat.le_of_ble_eq_true rfl) dText_has_28
    · replace hf := g_if c_2 hf
      refine lv_aload_n hx hb dText_has_10 rfl (lv_at hl 0 rfl) ?_
      refine lv_iload_n hx hb dText_has_11 rfl (lv_at hl 2 rfl) ?_
      replace hf := g_bd hf
      obtain ⟨_, hi_3, hf⟩ := hf
      replace hf := g_bps hf
      obtain ⟨v_5, z_4, hz_4, hf⟩ := hf
      refine g_goi (g_rV (As := [.int i2b]) (rest := []) ⟨hx, hb, hml, hown, hts⟩ (mText_at l D A n _ _ a0b i2b _ hz_4) (cwV 1 hts (gi_V kw_191 kw_192 kw_193 kw_3 kw_194) rfl rfl rfl ⟨rfl, hdText_at⟩ ⟨Nat.le_of_ble_eq_true rfl, Nat.le_of_ble_eq_true rfl⟩) hK hW hS hA (ci := 0) (T := T_Text) (N := 2) rfl hi_3 rfl hl.1 rfl (Nat.le_of_ble_eq_true rfl) dText_has_12 ⟨Nat.le_of_ble_eq_true rfl, Nat.le_of_ble_eq_true rfl⟩) hS (fun H locs hW hS => ?_)
      refine lv_iload_n hx hb dText_has_15 rfl (lv_at hl 1 rfl) ?_
      refine lv_icmp_ne (tgt := 21) hx hb dText_has_16 (by decide) (fun c_6 => ?_) (fun c_6 => ?_)
      · replace hf := g_if c_6 hf
        refine lv_iinc (v := (i2b + 1)) (lv' := [(2, .int (i2b + 1)), (0, .ref a0b), (1, .int i1b)]) hx hb dText_has_21 hl (k := 2) rfl rfl (by decide) rfl (fun _ hl1 => ?_)
        clear hl
        have hl := hl1
        clear hl1
        refine lv_goto (tgt := 2) hx hb dText_has_24 (by decide) ?_
        exact ih a0b i1b (i2b + 1) _ _ _ _ hf hW hS (lv_sub hl [1, 2, 0] rfl)
      · replace hf := g_it c_6 hf
        refine lv_iconst (v := 1) hx hb dText_has_19 (by decide) ?_
        cases hf
        exact g_retz hx hb hr rfl hlocks hW hS (Nat.le_of_ble_eq_true rfl) (Nat.le_of_ble_eq_true rfl) dText_has_20
def fText_has (n : Nat) (a0 : Nat) (i1 : Int32) (z : gS) : Option (Int32 × gS) :=
    fText_has_L2 n n a0 i1 0 z
set_option maxHeartbeats 4000000 in
set_option maxRecDepth 100000 in
theorem mText_has (l : Launch) (D : va_G) (A : Nat → Prop) (n : Nat) (z z' : gS) (a0 : Nat) (i1 : Int32) (r : Int32) (hf : fText_has n a0 i1 z = some (r, z')) : Met l yText_has wsText_has ({ frames := 1, cells := 0, slots := 0, locals := 21 }) (g_P D vwCl gNN gOO A z [.ref a0, .int i1]) (g_Qi D vwCl A r z') 0 0 A := by
  refine Met.ofW (cc := cText_has) (maxL := 3) (ret := (some .boolean)) (by decide) rfl ?_
  intro p e s m args below meth c s₁ B hml hv
  obtain ⟨rfl, hW, hK, hA0⟩ := hv
  have C : g_C p s m meth c _ cText_has 3 (some .boolean) "SecretRows$Text" gW D vwCl gNN gOO A := ⟨B.exec, B.bytes, B.returns, hml, findClass_of_methodNamed B.named, fun w hw => atoms_spec (ws := wsText_has) B.pre w (List.mem_cons_of_mem _ hw), B.notSynchronized, hK, fun q hq => hA0 q (by rw [← hW.1]; exact hq)⟩
  have hS : va_S A s.heap s.heap [] := va_S.rf
  have hl := lv_entry ([.ref a0, .int i1]) (n := 3) (Nat.le_of_ble_eq_true rfl)
  rw [lg_entry_eq]
  generalize (lg_sl ([.ref a0, .int i1]) ++ List.replicate (3 - (lg_sl ([.ref a0, .int i1])).length) Slot.unset).toArray = ls at hl ⊢
  have hl : lv_has ls 3 [(0, .ref a0), (1, .int i1)] := hl
  obtain ⟨hx, hb, hr, hml, hown, hts, hlocks, hK, hA⟩ := id C
  unfold fText_has at hf
  refine lv_iconst (v := 0) hx hb dText_has_0 (by decide) ?_
  refine lv_istore_n (lv' := [(2, .int 0), (0, .ref a0), (1, .int i1)]) hx hb dText_has_1 rfl hl (by decide) rfl (fun _ hl1 => ?_)
  clear hl
  have hl := hl1
  clear hl1
  exact bText_has_2 C n n a0 i1 0 _ _ _ _ hf hW hS (lv_sub hl [1, 2, 0] rfl)

def fMain_tapeCanBeValue (n : Nat) (a0 : Nat) (z : gS) : Option (Int32 × gS) :=
    (g_fR z a0 8 4).bind fun r_1 =>
    r_1.bind fun a_2 =>
    (g_is z a_2 0).bind fun _ =>
    g_bp (fText_length n a_2 z) fun v_5 z_4 =>
    if v_5 < 4 then (
    some (0, z_4))
    else (
    (g_fR z_4 a0 8 4).bind fun r_7 =>
    r_7.bind fun a_8 =>
    (g_is z_4 a_8 0).bind fun _ =>
    g_bp (fText_length n a_8 z_4) fun v_11 z_10 =>
    if 12 < v_11 then (
    some (0, z_10))
    else (
    (g_fR z_10 a0 8 4).bind fun r_13 =>
    r_13.bind fun a_14 =>
    (g_is z_10 a_14 0).bind fun _ =>
    g_bp (fText_has n a_14 32 z_10) fun v_17 z_16 =>
    if v_17 = 0 then (
    some (1, z_16))
    else (
    some (0, z_16))))
set_option maxHeartbeats 4000000 in
set_option maxRecDepth 100000 in
theorem mMain_tapeCanBeValue (l : Launch) (D : va_G) (A : Nat → Prop) (n : Nat) (z z' : gS) (a0 : Nat) (r : Int32) (hf : fMain_tapeCanBeValue n a0 z = some (r, z')) : Met l yMain_tapeCanBeValue wsMain_tapeCanBeValue ({ frames := 2, cells := 0, slots := 0, locals := 43 }) (g_P D vwCl gNN gOO A z [.ref a0]) (g_Qi D vwCl A r z') 0 0 A := by
  refine Met.ofW (cc := cMain_tapeCanBeValue) (maxL := 1) (ret := (some .boolean)) (by decide) rfl ?_
  intro p e s m args below meth c s₁ B hml hv
  obtain ⟨rfl, hW, hK, hA0⟩ := hv
  have C : g_C p s m meth c _ cMain_tapeCanBeValue 1 (some .boolean) "SecretRows" gW D vwCl gNN gOO A := ⟨B.exec, B.bytes, B.returns, hml, findClass_of_methodNamed B.named, fun w hw => atoms_spec (ws := wsMain_tapeCanBeValue) B.pre w (List.mem_cons_of_mem _ hw), B.notSynchronized, hK, fun q hq => hA0 q (by rw [← hW.1]; exact hq)⟩
  have hS : va_S A s.heap s.heap [] := va_S.rf
  have hl := lv_entry ([.ref a0]) (n := 1) (Nat.le_of_ble_eq_true rfl)
  rw [lg_entry_eq]
  generalize (lg_sl ([.ref a0]) ++ List.replicate (1 - (lg_sl ([.ref a0])).length) Slot.unset).toArray = ls at hl ⊢
  have hl : lv_has ls 1 [(0, .ref a0)] := hl
  obtain ⟨hx, hb, hr, hml, hown, hts, hlocks, hK, hA⟩ := id C
  unfold fMain_tapeCanBeValue at hf
  refine lv_aload_n hx hb dMain_tapeCanBeValue_0 rfl (lv_at hl 0 rfl) ?_
  replace hf := g_bd hf
  obtain ⟨r_1, hr_1, hf⟩ := hf
  refine g_getR hx hb hts in_Main hown hK hW (ci := 8) (C := "SecretRows") (T := T_Main) (N := 14) rfl (k := 4) (by decide) (hts _ kw_85) (fun _ h9 => h9) hr_1 dMain_tapeCanBeValue_1 ?_
  replace hf := g_bd hf
  obtain ⟨a_2, ea_2, hf⟩ := hf
  subst ea_2
  refine W.eq (g2 := F0 m 4 _ [.ref a_2]) rfl ?_
  replace hf := g_bd hf
  obtain ⟨_, hi_3, hf⟩ := hf
  replace hf := g_bps hf
  obtain ⟨v_5, z_4, hz_4, hf⟩ := hf
  refine g_goi (g_rV (As := []) (rest := []) ⟨hx, hb, hml, hown, hts⟩ (mText_length l D A n _ _ a_2 _ hz_4) (cwV 0 hts (gi_V kw_183 kw_184 kw_185 kw_3 kw_186) rfl rfl rfl ⟨rfl, hdText_length⟩ ⟨Nat.le_of_ble_eq_true rfl, Nat.le_of_ble_eq_true rfl⟩) hK hW hS hA (ci := 0) (T := T_Text) (N := 2) rfl hi_3 rfl hl.1 rfl (Nat.le_of_ble_eq_true rfl) dMain_tapeCanBeValue_4 ⟨Nat.le_of_ble_eq_true rfl, Nat.le_of_ble_eq_true rfl⟩) hS (fun H locs hW hS => ?_)
  refine lv_iconst (v := 4) hx hb dMain_tapeCanBeValue_7 (by decide) ?_
  refine lv_icmp_lt (tgt := 39) hx hb dMain_tapeCanBeValue_8 (by decide) (fun c_6 => ?_) (fun c_6 => ?_)
  · replace hf := g_it c_6 hf
    refine lv_iconst (v := 0) hx hb dMain_tapeCanBeValue_39 (by decide) ?_
    cases hf
    exact g_retz hx hb hr rfl hlocks hW hS (Nat.le_of_ble_eq_true rfl) (Nat.le_of_ble_eq_true rfl) dMain_tapeCanBeValue_40
  · replace hf := g_if c_6 hf
    refine lv_aload_n hx hb dMain_tapeCanBeValue_11 rfl (lv_at hl 0 rfl) ?_
    replace hf := g_bd hf
    obtain ⟨r_7, hr_7, hf⟩ := hf
    refine g_getR hx hb hts in_Main hown hK hW (ci := 8) (C := "SecretRows") (T := T_Main) (N := 14) rfl (k := 4) (by decide) (hts _ kw_85) (fun _ h9 => h9) hr_7 dMain_tapeCanBeValue_12 ?_
    replace hf := g_bd hf
    obtain ⟨a_8, ea_8, hf⟩ := hf
    subst ea_8
    refine W.eq (g2 := F0 m 15 _ [.ref a_8]) rfl ?_
    replace hf := g_bd hf
    obtain ⟨_, hi_9, hf⟩ := hf
    replace hf := g_bps hf
    obtain ⟨v_11, z_10, hz_10, hf⟩ := hf
    refine g_goi (g_rV (As := []) (rest := []) ⟨hx, hb, hml, hown, hts⟩ (mText_length l D A n _ _ a_8 _ hz_10) (cwV 0 hts (gi_V kw_183 kw_184 kw_185 kw_3 kw_186) rfl rfl rfl ⟨rfl, hdText_length⟩ ⟨Nat.le_of_ble_eq_true rfl, Nat.le_of_ble_eq_true rfl⟩) hK hW hS hA (ci := 0) (T := T_Text) (N := 2) rfl hi_9 rfl hl.1 rfl (Nat.le_of_ble_eq_true rfl) dMain_tapeCanBeValue_15 ⟨Nat.le_of_ble_eq_true rfl, Nat.le_of_ble_eq_true rfl⟩) hS (fun H locs hW hS => ?_)
    refine lv_bipush (v := 12) hx hb dMain_tapeCanBeValue_18 (by decide) ?_
    refine lv_icmp_gt (tgt := 39) hx hb dMain_tapeCanBeValue_20 (by decide) (fun c_12 => ?_) (fun c_12 => ?_)
    · replace hf := g_it c_12 hf
      refine lv_iconst (v := 0) hx hb dMain_tapeCanBeValue_39 (by decide) ?_
      cases hf
      exact g_retz hx hb hr rfl hlocks hW hS (Nat.le_of_ble_eq_true rfl) (Nat.le_of_ble_eq_true rfl) dMain_tapeCanBeValue_40
    · replace hf := g_if c_12 hf
      refine lv_aload_n hx hb dMain_tapeCanBeValue_23 rfl (lv_at hl 0 rfl) ?_
      replace hf := g_bd hf
      obtain ⟨r_13, hr_13, hf⟩ := hf
      refine g_getR hx hb hts in_Main hown hK hW (ci := 8) (C := "SecretRows") (T := T_Main) (N := 14) rfl (k := 4) (by decide) (hts _ kw_85) (fun _ h9 => h9) hr_13 dMain_tapeCanBeValue_24 ?_
      refine lv_bipush (v := 32) hx hb dMain_tapeCanBeValue_27 (by decide) ?_
      replace hf := g_bd hf
      obtain ⟨a_14, ea_14, hf⟩ := hf
      subst ea_14
      refine W.eq (g2 := F0 m 29 _ [.int 32, .ref a_14]) rfl ?_
      replace hf := g_bd hf
      obtain ⟨_, hi_15, hf⟩ := hf
      replace hf := g_bps hf
      obtain ⟨v_17, z_16, hz_16, hf⟩ := hf
      refine g_goi (g_rV (As := [.int 32]) (rest := []) ⟨hx, hb, hml, hown, hts⟩ (mText_has l D A n _ _ a_14 32 _ hz_16) (cwV 1 hts (gi_V kw_187 kw_188 kw_189 kw_3 kw_190) rfl rfl rfl ⟨rfl, hdText_has⟩ ⟨Nat.le_of_ble_eq_true rfl, Nat.le_of_ble_eq_true rfl⟩) hK hW hS hA (ci := 0) (T := T_Text) (N := 2) rfl hi_15 rfl hl.1 rfl (Nat.le_of_ble_eq_true rfl) dMain_tapeCanBeValue_29 ⟨Nat.le_of_ble_eq_true rfl, Nat.le_of_ble_eq_true rfl⟩) hS (fun H locs hW hS => ?_)
      refine lv_if_ne (tgt := 39) hx hb dMain_tapeCanBeValue_32 (by decide) (fun c_18 => ?_) (fun c_18 => ?_)
      · replace hf := g_if c_18 hf
        refine lv_iconst (v := 0) hx hb dMain_tapeCanBeValue_39 (by decide) ?_
        cases hf
        exact g_retz hx hb hr rfl hlocks hW hS (Nat.le_of_ble_eq_true rfl) (Nat.le_of_ble_eq_true rfl) dMain_tapeCanBeValue_40
      · replace hf := g_it c_18 hf
        refine lv_iconst (v := 1) hx hb dMain_tapeCanBeValue_35 (by decide) ?_
        refine lv_goto (tgt := 40) hx hb dMain_tapeCanBeValue_36 (by decide) ?_
        cases hf
        exact g_retz hx hb hr rfl hlocks hW hS (Nat.le_of_ble_eq_true rfl) (Nat.le_of_ble_eq_true rfl) dMain_tapeCanBeValue_40

def fText_agrees_L17 (n : Nat) : Nat → Nat → Nat → Int32 → Int32 → Int32 → gS → Option (Int32 × gS)
  | 0, _, _, _, _, _, _ => none
  | k + 1, a0b, a1b, i2b, i3b, i4b, z =>
    if i3b ≤ i4b then (
    some (1, z))
    else (
    (g_is z a0b 0).bind fun _ =>
    g_bp (fText_at n a0b i4b z) fun v_6 z_5 =>
    (g_is z_5 a1b 0).bind fun _ =>
    g_bp (fText_at n a1b (i2b + i4b) z_5) fun v_9 z_8 =>
    if v_6 = v_9 then (
    fText_agrees_L17 n k a0b a1b i2b i3b (i4b + 1) z_8)
    else (
    some (0, z_8)))
set_option maxHeartbeats 4000000 in
set_option maxRecDepth 100000 in
theorem bText_agrees_17 {p : Program} {l : Launch} {e : Env} {s : State} {m : MethodId} {args : Array Value} {below : List Frame} {meth : Method} {c : Code} {D : va_G} {A : Nat → Prop} (C : g_C p s m meth c args cText_agrees 5 (some .boolean) "SecretRows$Text" gW D vwCl gNN gOO A) (n : Nat) {r : Int32} {z' : gS} : ∀ k : Nat, ∀ (a0b : Nat) (a1b : Nat) (i2b : Int32) (i3b : Int32) (i4b : Int32) (z : gS) (H : Heap) (locs : List Loc) (ls : Array Slot), fText_agrees_L17 n k a0b a1b i2b i3b i4b z = some (r, z') → g_W D vwCl A z s H → va_S A s.heap H locs → lv_has ls 5 [(0, .ref a0b), (1, .ref a1b), (2, .int i2b), (3, .int i3b), (4, .int i4b)] → W p l e (headSpec wsText_agrees ({ frames := 1, cells := 0, slots := 0, locals := 21 })).room s m args below meth c H locs 0 0 (MQ below (g_Qi D vwCl A r z') args s 0 0 A) (F0 m 17 ls []) := by
  obtain ⟨hx, hb, hr, hml, hown, hts, hlocks, hK, hA⟩ := id C
  intro k
  induction k with
  | zero =>
    intro a0b a1b i2b i3b i4b z H locs ls hf
    have hf : (none : Option (Int32 × gS)) = some _ := hf
    cases hf
  | succ k ih =>
    intro a0b a1b i2b i3b i4b z H locs ls hf hW hS hl
    rw [fText_agrees_L17] at hf
    refine lv_iload hx hb dText_agrees_17 (lv_at hl 4 rfl) ?_
    refine lv_iload_n hx hb dText_agrees_19 rfl (lv_at hl 3 rfl) ?_
    refine lv_icmp_ge (tgt := 48) hx hb dText_agrees_20 (by decide) (fun c_3 => ?_) (fun c_3 => ?_)
    · replace hf := g_it c_3 hf
      refine lv_iconst (v := 1) hx hb dText_agrees_48 (by decide) ?_
      cases hf
      exact g_retz hx hb hr rfl hlocks hW hS (Nat.le_of_ble_eq_true rfl) (Nat.le_of_ble_eq_true rfl) dText_agrees_49
    · replace hf := g_if c_3 hf
      refine lv_aload_n hx hb dText_agrees_23 rfl (lv_at hl 0 rfl) ?_
      refine lv_iload hx hb dText_agrees_24 (lv_at hl 4 rfl) ?_
      replace hf := g_bd hf
      obtain ⟨_, hi_4, hf⟩ := hf
      replace hf := g_bps hf
      obtain ⟨v_6, z_5, hz_5, hf⟩ := hf
      refine g_goi (g_rV (As := [.int i4b]) (rest := []) ⟨hx, hb, hml, hown, hts⟩ (mText_at l D A n _ _ a0b i4b _ hz_5) (cwV 1 hts (gi_V kw_191 kw_192 kw_193 kw_3 kw_194) rfl rfl rfl ⟨rfl, hdText_at⟩ ⟨Nat.le_of_ble_eq_true rfl, Nat.le_of_ble_eq_true rfl⟩) hK hW hS hA (ci := 0) (T := T_Text) (N := 2) rfl hi_4 rfl hl.1 rfl (Nat.le_of_ble_eq_true rfl) dText_agrees_26 ⟨Nat.le_of_ble_eq_true rfl, Nat.le_of_ble_eq_true rfl⟩) hS (fun H locs hW hS => ?_)
      refine lv_aload_n hx hb dText_agrees_29 rfl (lv_at hl 1 rfl) ?_
      refine lv_iload_n hx hb dText_agrees_30 rfl (lv_at hl 2 rfl) ?_
      refine lv_iload hx hb dText_agrees_31 (lv_at hl 4 rfl) ?_
      refine lv_iadd hx hb dText_agrees_33 ?_
      replace hf := g_bd hf
      obtain ⟨_, hi_7, hf⟩ := hf
      replace hf := g_bps hf
      obtain ⟨v_9, z_8, hz_8, hf⟩ := hf
      refine g_goi (g_rV (As := [.int (i2b + i4b)]) (rest := [.int v_6]) ⟨hx, hb, hml, hown, hts⟩ (mText_at l D A n _ _ a1b (i2b + i4b) _ hz_8) (cwV 1 hts (gi_V kw_191 kw_192 kw_193 kw_3 kw_194) rfl rfl rfl ⟨rfl, hdText_at⟩ ⟨Nat.le_of_ble_eq_true rfl, Nat.le_of_ble_eq_true rfl⟩) hK hW hS hA (ci := 0) (T := T_Text) (N := 2) rfl hi_7 rfl hl.1 rfl (Nat.le_of_ble_eq_true rfl) dText_agrees_34 ⟨Nat.le_of_ble_eq_true rfl, Nat.le_of_ble_eq_true rfl⟩) hS (fun H locs hW hS => ?_)
      refine lv_icmp_eq (tgt := 42) hx hb dText_agrees_37 (by decide) (fun c_10 => ?_) (fun c_10 => ?_)
      · replace hf := g_it c_10 hf
        refine lv_iinc (v := (i4b + 1)) (lv' := [(4, .int (i4b + 1)), (0, .ref a0b), (1, .ref a1b), (2, .int i2b), (3, .int i3b)]) hx hb dText_agrees_42 hl (k := 4) rfl rfl (by decide) rfl (fun _ hl1 => ?_)
        clear hl
        have hl := hl1
        clear hl1
        refine lv_goto (tgt := 17) hx hb dText_agrees_45 (by decide) ?_
        exact ih a0b a1b i2b i3b (i4b + 1) _ _ _ _ hf hW hS (lv_sub hl [1, 2, 3, 4, 0] rfl)
      · replace hf := g_if c_10 hf
        refine lv_iconst (v := 0) hx hb dText_agrees_40 (by decide) ?_
        cases hf
        exact g_retz hx hb hr rfl hlocks hW hS (Nat.le_of_ble_eq_true rfl) (Nat.le_of_ble_eq_true rfl) dText_agrees_41
def fText_agrees (n : Nat) (a0 : Nat) (a1 : Nat) (i2 : Int32) (z : gS) : Option (Int32 × gS) :=
    (g_fI z a0 0 1).bind fun v_1 =>
    (g_fI z a1 0 1).bind fun v_2 =>
    fText_agrees_L17 n n a0 a1 i2 ((if (v_2 - i2) < v_1 then (v_2 - i2) else v_1)) 0 z
set_option maxHeartbeats 4000000 in
set_option maxRecDepth 100000 in
theorem mText_agrees (l : Launch) (D : va_G) (A : Nat → Prop) (n : Nat) (z z' : gS) (a0 : Nat) (a1 : Nat) (i2 : Int32) (r : Int32) (hf : fText_agrees n a0 a1 i2 z = some (r, z')) : Met l yText_agrees wsText_agrees ({ frames := 1, cells := 0, slots := 0, locals := 21 }) (g_P D vwCl gNN gOO A z [.ref a0, .ref a1, .int i2]) (g_Qi D vwCl A r z') 0 0 A := by
  refine Met.ofW (cc := cText_agrees) (maxL := 5) (ret := (some .boolean)) (by decide) rfl ?_
  intro p e s m args below meth c s₁ B hml hv
  obtain ⟨rfl, hW, hK, hA0⟩ := hv
  have C : g_C p s m meth c _ cText_agrees 5 (some .boolean) "SecretRows$Text" gW D vwCl gNN gOO A := ⟨B.exec, B.bytes, B.returns, hml, findClass_of_methodNamed B.named, fun w hw => atoms_spec (ws := wsText_agrees) B.pre w (List.mem_cons_of_mem _ hw), B.notSynchronized, hK, fun q hq => hA0 q (by rw [← hW.1]; exact hq)⟩
  have hS : va_S A s.heap s.heap [] := va_S.rf
  have hl := lv_entry ([.ref a0, .ref a1, .int i2]) (n := 5) (Nat.le_of_ble_eq_true rfl)
  rw [lg_entry_eq]
  generalize (lg_sl ([.ref a0, .ref a1, .int i2]) ++ List.replicate (5 - (lg_sl ([.ref a0, .ref a1, .int i2])).length) Slot.unset).toArray = ls at hl ⊢
  have hl : lv_has ls 5 [(0, .ref a0), (1, .ref a1), (2, .int i2)] := hl
  obtain ⟨hx, hb, hr, hml, hown, hts, hlocks, hK, hA⟩ := id C
  unfold fText_agrees at hf
  refine lv_aload_n hx hb dText_agrees_0 rfl (lv_at hl 0 rfl) ?_
  replace hf := g_bd hf
  obtain ⟨v_1, hv_1, hf⟩ := hf
  refine g_getI hx hb hts in_Text hown hK hW (ci := 0) (C := "SecretRows$Text") (T := T_Text) (N := 2) rfl (k := 1) (by decide) (hts _ kw_50) (fun _ h9 => h9) hv_1 dText_agrees_1 ?_
  refine lv_aload_n hx hb dText_agrees_4 rfl (lv_at hl 1 rfl) ?_
  replace hf := g_bd hf
  obtain ⟨v_2, hv_2, hf⟩ := hf
  refine g_getI hx hb hts in_Text hown hK hW (ci := 0) (C := "SecretRows$Text") (T := T_Text) (N := 2) rfl (k := 1) (by decide) (hts _ kw_50) (fun _ h9 => h9) hv_2 dText_agrees_5 ?_
  refine lv_iload_n hx hb dText_agrees_8 rfl (lv_at hl 2 rfl) ?_
  refine lv_isub hx hb dText_agrees_9 ?_
  refine va_mmin hx hb (by rw [hml]; exact hl.1.symm) hown (hts _ kw_211) (hts _ kw_212) (hts _ kw_4) (hts _ kw_213) (Nat.le_of_ble_eq_true rfl) (Nat.le_of_ble_eq_true rfl) (Nat.le_of_ble_eq_true rfl) (Nat.le_of_ble_eq_true rfl) dText_agrees_10 ?_
  refine lv_istore_n (lv' := [(3, .int (if (v_2 - i2) < v_1 then (v_2 - i2) else v_1)), (0, .ref a0), (1, .ref a1), (2, .int i2)]) hx hb dText_agrees_13 rfl hl (by decide) rfl (fun _ hl1 => ?_)
  clear hl
  have hl := hl1
  clear hl1
  refine lv_iconst (v := 0) hx hb dText_agrees_14 (by decide) ?_
  refine lv_istore (lv' := [(4, .int 0), (3, .int (if (v_2 - i2) < v_1 then (v_2 - i2) else v_1)), (0, .ref a0), (1, .ref a1), (2, .int i2)]) hx hb dText_agrees_15 hl (by decide) rfl (fun _ hl1 => ?_)
  clear hl
  have hl := hl1
  clear hl1
  exact bText_agrees_17 C n n a0 a1 i2 ((if (v_2 - i2) < v_1 then (v_2 - i2) else v_1)) 0 _ _ _ _ hf hW hS (lv_sub hl [2, 3, 4, 1, 0] rfl)
