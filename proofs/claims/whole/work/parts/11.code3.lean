theorem dMain_keptValue_0 : decode cMain_keptValue 0 = .ok (.aload_n 0, 1) := by decide +kernel
theorem dMain_keptValue_1 : decode cMain_keptValue 1 = .ok (.iload_n 1, 1) := by decide +kernel
theorem dMain_keptValue_2 : decode cMain_keptValue 2 = .ok (.invokevirtual 101, 3) := by decide +kernel
theorem dMain_keptValue_5 : decode cMain_keptValue 5 = .ok (.astore_n 3, 1) := by decide +kernel
theorem dMain_keptValue_6 : decode cMain_keptValue 6 = .ok (.aload_n 3, 1) := by decide +kernel
theorem dMain_keptValue_7 : decode cMain_keptValue 7 = .ok (.ifnonnull 7, 3) := by decide +kernel
theorem dMain_keptValue_10 : decode cMain_keptValue 10 = .ok (.aconst_null, 1) := by decide +kernel
theorem dMain_keptValue_11 : decode cMain_keptValue 11 = .ok (.goto 8, 3) := by decide +kernel
theorem dMain_keptValue_14 : decode cMain_keptValue 14 = .ok (.aload_n 3, 1) := by decide +kernel
theorem dMain_keptValue_15 : decode cMain_keptValue 15 = .ok (.iload_n 2, 1) := by decide +kernel
theorem dMain_keptValue_16 : decode cMain_keptValue 16 = .ok (.invokevirtual 187, 3) := by decide +kernel
theorem dMain_keptValue_19 : decode cMain_keptValue 19 = .ok (.areturn, 1) := by decide +kernel
theorem dAudit_tell_0 : decode cAudit_tell 0 = .ok (.aload_n 0, 1) := by decide +kernel
theorem dAudit_tell_1 : decode cAudit_tell 1 = .ok (.getfield 15, 3) := by decide +kernel
theorem dAudit_tell_4 : decode cAudit_tell 4 = .ok (.iconst 3, 1) := by decide +kernel
theorem dAudit_tell_5 : decode cAudit_tell 5 = .ok (.imul, 1) := by decide +kernel
theorem dAudit_tell_6 : decode cAudit_tell 6 = .ok (.istore 4, 2) := by decide +kernel
theorem dAudit_tell_8 : decode cAudit_tell 8 = .ok (.iload 4, 2) := by decide +kernel
theorem dAudit_tell_10 : decode cAudit_tell 10 = .ok (.ifCond .lt 15, 3) := by decide +kernel
theorem dAudit_tell_13 : decode cAudit_tell 13 = .ok (.iload 4, 2) := by decide +kernel
theorem dAudit_tell_15 : decode cAudit_tell 15 = .ok (.iconst 2, 1) := by decide +kernel
theorem dAudit_tell_16 : decode cAudit_tell 16 = .ok (.iadd, 1) := by decide +kernel
theorem dAudit_tell_17 : decode cAudit_tell 17 = .ok (.aload_n 0, 1) := by decide +kernel
theorem dAudit_tell_18 : decode cAudit_tell 18 = .ok (.getfield 9, 3) := by decide +kernel
theorem dAudit_tell_21 : decode cAudit_tell 21 = .ok (.arraylength, 1) := by decide +kernel
theorem dAudit_tell_22 : decode cAudit_tell 22 = .ok (.if_icmp .lt 4, 3) := by decide +kernel
theorem dAudit_tell_25 : decode cAudit_tell 25 = .ok (.return_, 1) := by decide +kernel
theorem dAudit_tell_26 : decode cAudit_tell 26 = .ok (.aload_n 0, 1) := by decide +kernel
theorem dAudit_tell_27 : decode cAudit_tell 27 = .ok (.getfield 9, 3) := by decide +kernel
theorem dAudit_tell_30 : decode cAudit_tell 30 = .ok (.iload 4, 2) := by decide +kernel
theorem dAudit_tell_32 : decode cAudit_tell 32 = .ok (.iload_n 1, 1) := by decide +kernel
theorem dAudit_tell_33 : decode cAudit_tell 33 = .ok (.iastore, 1) := by decide +kernel
theorem dAudit_tell_34 : decode cAudit_tell 34 = .ok (.aload_n 0, 1) := by decide +kernel
theorem dAudit_tell_35 : decode cAudit_tell 35 = .ok (.getfield 9, 3) := by decide +kernel
theorem dAudit_tell_38 : decode cAudit_tell 38 = .ok (.iload 4, 2) := by decide +kernel
theorem dAudit_tell_40 : decode cAudit_tell 40 = .ok (.iconst 1, 1) := by decide +kernel
theorem dAudit_tell_41 : decode cAudit_tell 41 = .ok (.iadd, 1) := by decide +kernel
theorem dAudit_tell_42 : decode cAudit_tell 42 = .ok (.iload_n 2, 1) := by decide +kernel
theorem dAudit_tell_43 : decode cAudit_tell 43 = .ok (.iastore, 1) := by decide +kernel
theorem dAudit_tell_44 : decode cAudit_tell 44 = .ok (.aload_n 0, 1) := by decide +kernel
theorem dAudit_tell_45 : decode cAudit_tell 45 = .ok (.getfield 9, 3) := by decide +kernel
theorem dAudit_tell_48 : decode cAudit_tell 48 = .ok (.iload 4, 2) := by decide +kernel
theorem dAudit_tell_50 : decode cAudit_tell 50 = .ok (.iconst 2, 1) := by decide +kernel
theorem dAudit_tell_51 : decode cAudit_tell 51 = .ok (.iadd, 1) := by decide +kernel
theorem dAudit_tell_52 : decode cAudit_tell 52 = .ok (.iload_n 3, 1) := by decide +kernel
theorem dAudit_tell_53 : decode cAudit_tell 53 = .ok (.iastore, 1) := by decide +kernel
theorem dAudit_tell_54 : decode cAudit_tell 54 = .ok (.aload_n 0, 1) := by decide +kernel
theorem dAudit_tell_55 : decode cAudit_tell 55 = .ok (.dup, 1) := by decide +kernel
theorem dAudit_tell_56 : decode cAudit_tell 56 = .ok (.getfield 15, 3) := by decide +kernel
theorem dAudit_tell_59 : decode cAudit_tell 59 = .ok (.iconst 1, 1) := by decide +kernel
theorem dAudit_tell_60 : decode cAudit_tell 60 = .ok (.iadd, 1) := by decide +kernel
theorem dAudit_tell_61 : decode cAudit_tell 61 = .ok (.putfield 15, 3) := by decide +kernel
theorem dAudit_tell_64 : decode cAudit_tell 64 = .ok (.return_, 1) := by decide +kernel
theorem dMain_read_0 : decode cMain_read 0 = .ok (.aload_n 0, 1) := by decide +kernel
theorem dMain_read_1 : decode cMain_read 1 = .ok (.iload_n 1, 1) := by decide +kernel
theorem dMain_read_2 : decode cMain_read 2 = .ok (.iload_n 2, 1) := by decide +kernel
theorem dMain_read_3 : decode cMain_read 3 = .ok (.invokevirtual 109, 3) := by decide +kernel
theorem dMain_read_6 : decode cMain_read 6 = .ok (.astore 4, 2) := by decide +kernel
theorem dMain_read_8 : decode cMain_read 8 = .ok (.aload 4, 2) := by decide +kernel
theorem dMain_read_10 : decode cMain_read 10 = .ok (.ifnonnull 5, 3) := by decide +kernel
theorem dMain_read_13 : decode cMain_read 13 = .ok (.iconst (-1), 1) := by decide +kernel
theorem dMain_read_14 : decode cMain_read 14 = .ok (.ireturn, 1) := by decide +kernel
theorem dMain_read_15 : decode cMain_read 15 = .ok (.aload_n 0, 1) := by decide +kernel
theorem dMain_read_16 : decode cMain_read 16 = .ok (.getfield 30, 3) := by decide +kernel
theorem dMain_read_19 : decode cMain_read 19 = .ok (.iload_n 1, 1) := by decide +kernel
theorem dMain_read_20 : decode cMain_read 20 = .ok (.iload_n 2, 1) := by decide +kernel
theorem dMain_read_21 : decode cMain_read 21 = .ok (.aload_n 0, 1) := by decide +kernel
theorem dMain_read_22 : decode cMain_read 22 = .ok (.getfield 86, 3) := by decide +kernel
theorem dMain_read_25 : decode cMain_read 25 = .ok (.invokevirtual 113, 3) := by decide +kernel
theorem dMain_read_28 : decode cMain_read 28 = .ok (.aload 4, 2) := by decide +kernel
theorem dMain_read_30 : decode cMain_read 30 = .ok (.getfield 116, 3) := by decide +kernel
theorem dMain_read_33 : decode cMain_read 33 = .ok (.iload_n 3, 1) := by decide +kernel
theorem dMain_read_34 : decode cMain_read 34 = .ok (.invokevirtual 121, 3) := by decide +kernel
theorem dMain_read_37 : decode cMain_read 37 = .ok (.ireturn, 1) := by decide +kernel
theorem dAudit_cell_0 : decode cAudit_cell 0 = .ok (.iload_n 1, 1) := by decide +kernel
theorem dAudit_cell_1 : decode cAudit_cell 1 = .ok (.ifCond .lt 20, 3) := by decide +kernel
theorem dAudit_cell_4 : decode cAudit_cell 4 = .ok (.iload_n 1, 1) := by decide +kernel
theorem dAudit_cell_5 : decode cAudit_cell 5 = .ok (.aload_n 0, 1) := by decide +kernel
theorem dAudit_cell_6 : decode cAudit_cell 6 = .ok (.getfield 15, 3) := by decide +kernel
theorem dAudit_cell_9 : decode cAudit_cell 9 = .ok (.if_icmp .ge 12, 3) := by decide +kernel
theorem dAudit_cell_12 : decode cAudit_cell 12 = .ok (.iload_n 2, 1) := by decide +kernel
theorem dAudit_cell_13 : decode cAudit_cell 13 = .ok (.ifCond .lt 8, 3) := by decide +kernel
theorem dAudit_cell_16 : decode cAudit_cell 16 = .ok (.iload_n 2, 1) := by decide +kernel
theorem dAudit_cell_17 : decode cAudit_cell 17 = .ok (.iconst 3, 1) := by decide +kernel
theorem dAudit_cell_18 : decode cAudit_cell 18 = .ok (.if_icmp .lt 5, 3) := by decide +kernel
theorem dAudit_cell_21 : decode cAudit_cell 21 = .ok (.iconst (-1), 1) := by decide +kernel
theorem dAudit_cell_22 : decode cAudit_cell 22 = .ok (.ireturn, 1) := by decide +kernel
theorem dAudit_cell_23 : decode cAudit_cell 23 = .ok (.iload_n 1, 1) := by decide +kernel
theorem dAudit_cell_24 : decode cAudit_cell 24 = .ok (.iconst 3, 1) := by decide +kernel
theorem dAudit_cell_25 : decode cAudit_cell 25 = .ok (.imul, 1) := by decide +kernel
theorem dAudit_cell_26 : decode cAudit_cell 26 = .ok (.iload_n 2, 1) := by decide +kernel
theorem dAudit_cell_27 : decode cAudit_cell 27 = .ok (.iadd, 1) := by decide +kernel
theorem dAudit_cell_28 : decode cAudit_cell 28 = .ok (.istore_n 3, 1) := by decide +kernel
theorem dAudit_cell_29 : decode cAudit_cell 29 = .ok (.iload_n 3, 1) := by decide +kernel
theorem dAudit_cell_30 : decode cAudit_cell 30 = .ok (.ifCond .lt 12, 3) := by decide +kernel
theorem dAudit_cell_33 : decode cAudit_cell 33 = .ok (.iload_n 3, 1) := by decide +kernel
theorem dAudit_cell_34 : decode cAudit_cell 34 = .ok (.aload_n 0, 1) := by decide +kernel
theorem dAudit_cell_35 : decode cAudit_cell 35 = .ok (.getfield 9, 3) := by decide +kernel
theorem dAudit_cell_38 : decode cAudit_cell 38 = .ok (.arraylength, 1) := by decide +kernel
theorem dAudit_cell_39 : decode cAudit_cell 39 = .ok (.if_icmp .lt 7, 3) := by decide +kernel
theorem dAudit_cell_42 : decode cAudit_cell 42 = .ok (.iconst (-1), 1) := by decide +kernel
theorem dAudit_cell_43 : decode cAudit_cell 43 = .ok (.goto 9, 3) := by decide +kernel
theorem dAudit_cell_46 : decode cAudit_cell 46 = .ok (.aload_n 0, 1) := by decide +kernel
theorem dAudit_cell_47 : decode cAudit_cell 47 = .ok (.getfield 9, 3) := by decide +kernel
theorem dAudit_cell_50 : decode cAudit_cell 50 = .ok (.iload_n 3, 1) := by decide +kernel
theorem dAudit_cell_51 : decode cAudit_cell 51 = .ok (.iaload, 1) := by decide +kernel
theorem dAudit_cell_52 : decode cAudit_cell 52 = .ok (.ireturn, 1) := by decide +kernel
theorem dMain_audit_0 : decode cMain_audit 0 = .ok (.aload_n 0, 1) := by decide +kernel
theorem dMain_audit_1 : decode cMain_audit 1 = .ok (.getfield 30, 3) := by decide +kernel
theorem dMain_audit_4 : decode cMain_audit 4 = .ok (.iload_n 1, 1) := by decide +kernel
theorem dMain_audit_5 : decode cMain_audit 5 = .ok (.iload_n 2, 1) := by decide +kernel
theorem dMain_audit_6 : decode cMain_audit 6 = .ok (.invokevirtual 124, 3) := by decide +kernel
theorem dMain_audit_9 : decode cMain_audit 9 = .ok (.ireturn, 1) := by decide +kernel
theorem dLog_takes_0 : decode cLog_takes 0 = .ok (.aload_n 0, 1) := by decide +kernel
theorem dLog_takes_1 : decode cLog_takes 1 = .ok (.getfield 23, 3) := by decide +kernel
theorem dLog_takes_4 : decode cLog_takes 4 = .ok (.ifCond .ne 22, 3) := by decide +kernel
theorem dLog_takes_7 : decode cLog_takes 7 = .ok (.iload_n 1, 1) := by decide +kernel
theorem dLog_takes_8 : decode cLog_takes 8 = .ok (.sipush 300, 3) := by decide +kernel
theorem dLog_takes_11 : decode cLog_takes 11 = .ok (.aload_n 0, 1) := by decide +kernel
theorem dLog_takes_12 : decode cLog_takes 12 = .ok (.getfield 14, 3) := by decide +kernel
theorem dLog_takes_15 : decode cLog_takes 15 = .ok (.invokevirtual 27, 3) := by decide +kernel
theorem dLog_takes_18 : decode cLog_takes 18 = .ok (.isub, 1) := by decide +kernel
theorem dLog_takes_19 : decode cLog_takes 19 = .ok (.if_icmp .gt 7, 3) := by decide +kernel
theorem dLog_takes_22 : decode cLog_takes 22 = .ok (.iconst 1, 1) := by decide +kernel
theorem dLog_takes_23 : decode cLog_takes 23 = .ok (.goto 4, 3) := by decide +kernel
theorem dLog_takes_26 : decode cLog_takes 26 = .ok (.iconst 0, 1) := by decide +kernel
theorem dLog_takes_27 : decode cLog_takes 27 = .ok (.ireturn, 1) := by decide +kernel
theorem dForms_clear_0 : decode cForms_clear 0 = .ok (.aload_n 0, 1) := by decide +kernel
theorem dForms_clear_1 : decode cForms_clear 1 = .ok (.iconst 0, 1) := by decide +kernel
theorem dForms_clear_2 : decode cForms_clear 2 = .ok (.putfield 27, 3) := by decide +kernel
theorem dForms_clear_5 : decode cForms_clear 5 = .ok (.return_, 1) := by decide +kernel
theorem dForms_add_0 : decode cForms_add 0 = .ok (.aload_n 0, 1) := by decide +kernel
theorem dForms_add_1 : decode cForms_add 1 = .ok (.getfield 27, 3) := by decide +kernel
theorem dForms_add_4 : decode cForms_add 4 = .ok (.ifCond .lt 12, 3) := by decide +kernel
theorem dForms_add_7 : decode cForms_add 7 = .ok (.aload_n 0, 1) := by decide +kernel
theorem dForms_add_8 : decode cForms_add 8 = .ok (.getfield 27, 3) := by decide +kernel
theorem dForms_add_11 : decode cForms_add 11 = .ok (.bipush 60, 2) := by decide +kernel
theorem dForms_add_13 : decode cForms_add 13 = .ok (.if_icmp .lt 4, 3) := by decide +kernel
theorem dForms_add_16 : decode cForms_add 16 = .ok (.return_, 1) := by decide +kernel
theorem dForms_add_17 : decode cForms_add 17 = .ok (.aload_n 0, 1) := by decide +kernel
theorem dForms_add_18 : decode cForms_add 18 = .ok (.getfield 11, 3) := by decide +kernel
theorem dForms_add_21 : decode cForms_add 21 = .ok (.aload_n 0, 1) := by decide +kernel
theorem dForms_add_22 : decode cForms_add 22 = .ok (.getfield 27, 3) := by decide +kernel
theorem dForms_add_25 : decode cForms_add 25 = .ok (.aload_n 1, 1) := by decide +kernel
theorem dForms_add_26 : decode cForms_add 26 = .ok (.aastore, 1) := by decide +kernel
theorem dForms_add_27 : decode cForms_add 27 = .ok (.aload_n 0, 1) := by decide +kernel
theorem dForms_add_28 : decode cForms_add 28 = .ok (.getfield 17, 3) := by decide +kernel
theorem dForms_add_31 : decode cForms_add 31 = .ok (.aload_n 0, 1) := by decide +kernel
theorem dForms_add_32 : decode cForms_add 32 = .ok (.getfield 27, 3) := by decide +kernel
theorem dForms_add_35 : decode cForms_add 35 = .ok (.iload_n 2, 1) := by decide +kernel
theorem dForms_add_36 : decode cForms_add 36 = .ok (.iastore, 1) := by decide +kernel
theorem dForms_add_37 : decode cForms_add 37 = .ok (.aload_n 0, 1) := by decide +kernel
theorem dForms_add_38 : decode cForms_add 38 = .ok (.getfield 21, 3) := by decide +kernel
theorem dForms_add_41 : decode cForms_add 41 = .ok (.aload_n 0, 1) := by decide +kernel
theorem dForms_add_42 : decode cForms_add 42 = .ok (.getfield 27, 3) := by decide +kernel
theorem dForms_add_45 : decode cForms_add 45 = .ok (.iload_n 3, 1) := by decide +kernel
theorem dForms_add_46 : decode cForms_add 46 = .ok (.iastore, 1) := by decide +kernel
theorem dForms_add_47 : decode cForms_add 47 = .ok (.aload_n 0, 1) := by decide +kernel
theorem dForms_add_48 : decode cForms_add 48 = .ok (.getfield 24, 3) := by decide +kernel
theorem dForms_add_51 : decode cForms_add 51 = .ok (.aload_n 0, 1) := by decide +kernel
theorem dForms_add_52 : decode cForms_add 52 = .ok (.getfield 27, 3) := by decide +kernel
theorem dForms_add_55 : decode cForms_add 55 = .ok (.iload 4, 2) := by decide +kernel
theorem dForms_add_57 : decode cForms_add 57 = .ok (.iastore, 1) := by decide +kernel
theorem dForms_add_58 : decode cForms_add 58 = .ok (.aload_n 0, 1) := by decide +kernel
theorem dForms_add_59 : decode cForms_add 59 = .ok (.dup, 1) := by decide +kernel
theorem dForms_add_60 : decode cForms_add 60 = .ok (.getfield 27, 3) := by decide +kernel
theorem dForms_add_63 : decode cForms_add 63 = .ok (.iconst 1, 1) := by decide +kernel
theorem dForms_add_64 : decode cForms_add 64 = .ok (.iadd, 1) := by decide +kernel
theorem dForms_add_65 : decode cForms_add 65 = .ok (.putfield 27, 3) := by decide +kernel
theorem dForms_add_68 : decode cForms_add 68 = .ok (.return_, 1) := by decide +kernel
theorem dForms_addAll_0 : decode cForms_addAll 0 = .ok (.aload_n 0, 1) := by decide +kernel
theorem dForms_addAll_1 : decode cForms_addAll 1 = .ok (.aload_n 2, 1) := by decide +kernel
theorem dForms_addAll_2 : decode cForms_addAll 2 = .ok (.getfield 31, 3) := by decide +kernel
theorem dForms_addAll_5 : decode cForms_addAll 5 = .ok (.iload_n 1, 1) := by decide +kernel
theorem dForms_addAll_6 : decode cForms_addAll 6 = .ok (.iconst 0, 1) := by decide +kernel
theorem dForms_addAll_7 : decode cForms_addAll 7 = .ok (.iload_n 3, 1) := by decide +kernel
theorem dForms_addAll_8 : decode cForms_addAll 8 = .ok (.invokevirtual 37, 3) := by decide +kernel
theorem dForms_addAll_11 : decode cForms_addAll 11 = .ok (.aload_n 0, 1) := by decide +kernel
theorem dForms_addAll_12 : decode cForms_addAll 12 = .ok (.aload_n 2, 1) := by decide +kernel
theorem dForms_addAll_13 : decode cForms_addAll 13 = .ok (.getfield 41, 3) := by decide +kernel
theorem dForms_addAll_16 : decode cForms_addAll 16 = .ok (.iload_n 1, 1) := by decide +kernel
theorem dForms_addAll_17 : decode cForms_addAll 17 = .ok (.iconst 1, 1) := by decide +kernel
theorem dForms_addAll_18 : decode cForms_addAll 18 = .ok (.iload_n 3, 1) := by decide +kernel
theorem dForms_addAll_19 : decode cForms_addAll 19 = .ok (.invokevirtual 37, 3) := by decide +kernel
theorem dForms_addAll_22 : decode cForms_addAll 22 = .ok (.aload_n 0, 1) := by decide +kernel
theorem dForms_addAll_23 : decode cForms_addAll 23 = .ok (.aload_n 2, 1) := by decide +kernel
theorem dForms_addAll_24 : decode cForms_addAll 24 = .ok (.getfield 44, 3) := by decide +kernel
theorem dForms_addAll_27 : decode cForms_addAll 27 = .ok (.iload_n 1, 1) := by decide +kernel
theorem dForms_addAll_28 : decode cForms_addAll 28 = .ok (.iconst 2, 1) := by decide +kernel
theorem dForms_addAll_29 : decode cForms_addAll 29 = .ok (.iload_n 3, 1) := by decide +kernel
theorem dForms_addAll_30 : decode cForms_addAll 30 = .ok (.invokevirtual 37, 3) := by decide +kernel
theorem dForms_addAll_33 : decode cForms_addAll 33 = .ok (.return_, 1) := by decide +kernel
theorem dMain_gatherForms_0 : decode cMain_gatherForms 0 = .ok (.aload_n 0, 1) := by decide +kernel
theorem dMain_gatherForms_1 : decode cMain_gatherForms 1 = .ok (.getfield 46, 3) := by decide +kernel
theorem dMain_gatherForms_4 : decode cMain_gatherForms 4 = .ok (.invokevirtual 231, 3) := by decide +kernel
theorem dMain_gatherForms_7 : decode cMain_gatherForms 7 = .ok (.iconst 0, 1) := by decide +kernel
theorem dMain_gatherForms_8 : decode cMain_gatherForms 8 = .ok (.istore_n 1, 1) := by decide +kernel
theorem dMain_gatherForms_9 : decode cMain_gatherForms 9 = .ok (.iload_n 1, 1) := by decide +kernel
theorem dMain_gatherForms_10 : decode cMain_gatherForms 10 = .ok (.aload_n 0, 1) := by decide +kernel
theorem dMain_gatherForms_11 : decode cMain_gatherForms 11 = .ok (.getfield 60, 3) := by decide +kernel
theorem dMain_gatherForms_14 : decode cMain_gatherForms 14 = .ok (.if_icmp .ge 74, 3) := by decide +kernel
theorem dMain_gatherForms_17 : decode cMain_gatherForms 17 = .ok (.aload_n 0, 1) := by decide +kernel
theorem dMain_gatherForms_18 : decode cMain_gatherForms 18 = .ok (.iload_n 1, 1) := by decide +kernel
theorem dMain_gatherForms_19 : decode cMain_gatherForms 19 = .ok (.invokevirtual 70, 3) := by decide +kernel
theorem dMain_gatherForms_22 : decode cMain_gatherForms 22 = .ok (.astore_n 2, 1) := by decide +kernel
theorem dMain_gatherForms_23 : decode cMain_gatherForms 23 = .ok (.aload_n 2, 1) := by decide +kernel
theorem dMain_gatherForms_24 : decode cMain_gatherForms 24 = .ok (.ifnull 34, 3) := by decide +kernel
theorem dMain_gatherForms_27 : decode cMain_gatherForms 27 = .ok (.aload_n 2, 1) := by decide +kernel
theorem dMain_gatherForms_28 : decode cMain_gatherForms 28 = .ok (.getfield 232, 3) := by decide +kernel
theorem dMain_gatherForms_31 : decode cMain_gatherForms 31 = .ok (.ifnull 27, 3) := by decide +kernel
theorem dMain_gatherForms_34 : decode cMain_gatherForms 34 = .ok (.aload_n 0, 1) := by decide +kernel
theorem dMain_gatherForms_35 : decode cMain_gatherForms 35 = .ok (.getfield 86, 3) := by decide +kernel
theorem dMain_gatherForms_38 : decode cMain_gatherForms 38 = .ok (.aload_n 2, 1) := by decide +kernel
theorem dMain_gatherForms_39 : decode cMain_gatherForms 39 = .ok (.getfield 235, 3) := by decide +kernel
theorem dMain_gatherForms_42 : decode cMain_gatherForms 42 = .ok (.if_icmp .ge 16, 3) := by decide +kernel
theorem dMain_gatherForms_45 : decode cMain_gatherForms 45 = .ok (.aload_n 0, 1) := by decide +kernel
theorem dMain_gatherForms_46 : decode cMain_gatherForms 46 = .ok (.getfield 46, 3) := by decide +kernel
theorem dMain_gatherForms_49 : decode cMain_gatherForms 49 = .ok (.iload_n 1, 1) := by decide +kernel
theorem dMain_gatherForms_50 : decode cMain_gatherForms 50 = .ok (.aload_n 2, 1) := by decide +kernel
theorem dMain_gatherForms_51 : decode cMain_gatherForms 51 = .ok (.getfield 232, 3) := by decide +kernel
theorem dMain_gatherForms_54 : decode cMain_gatherForms 54 = .ok (.iconst 1, 1) := by decide +kernel
theorem dMain_gatherForms_55 : decode cMain_gatherForms 55 = .ok (.invokevirtual 238, 3) := by decide +kernel
theorem dMain_gatherForms_58 : decode cMain_gatherForms 58 = .ok (.aload_n 2, 1) := by decide +kernel
theorem dMain_gatherForms_59 : decode cMain_gatherForms 59 = .ok (.ifnull 23, 3) := by decide +kernel
theorem dMain_gatherForms_62 : decode cMain_gatherForms 62 = .ok (.aload_n 2, 1) := by decide +kernel
theorem dMain_gatherForms_63 : decode cMain_gatherForms 63 = .ok (.getfield 226, 3) := by decide +kernel
theorem dMain_gatherForms_66 : decode cMain_gatherForms 66 = .ok (.ifnull 16, 3) := by decide +kernel
theorem dMain_gatherForms_69 : decode cMain_gatherForms 69 = .ok (.aload_n 0, 1) := by decide +kernel
theorem dMain_gatherForms_70 : decode cMain_gatherForms 70 = .ok (.getfield 46, 3) := by decide +kernel
theorem dMain_gatherForms_73 : decode cMain_gatherForms 73 = .ok (.iload_n 1, 1) := by decide +kernel
theorem dMain_gatherForms_74 : decode cMain_gatherForms 74 = .ok (.aload_n 2, 1) := by decide +kernel
theorem dMain_gatherForms_75 : decode cMain_gatherForms 75 = .ok (.getfield 226, 3) := by decide +kernel
theorem dMain_gatherForms_78 : decode cMain_gatherForms 78 = .ok (.iconst 0, 1) := by decide +kernel
theorem dMain_gatherForms_79 : decode cMain_gatherForms 79 = .ok (.invokevirtual 238, 3) := by decide +kernel
theorem dMain_gatherForms_82 : decode cMain_gatherForms 82 = .ok (.iinc 1 1, 3) := by decide +kernel
theorem dMain_gatherForms_85 : decode cMain_gatherForms 85 = .ok (.goto (-76), 3) := by decide +kernel
theorem dMain_gatherForms_88 : decode cMain_gatherForms 88 = .ok (.return_, 1) := by decide +kernel
theorem dForms_isThere_0 : decode cForms_isThere 0 = .ok (.iload_n 1, 1) := by decide +kernel
theorem dForms_isThere_1 : decode cForms_isThere 1 = .ok (.ifCond .lt 21, 3) := by decide +kernel
theorem dForms_isThere_4 : decode cForms_isThere 4 = .ok (.iload_n 1, 1) := by decide +kernel
theorem dForms_isThere_5 : decode cForms_isThere 5 = .ok (.aload_n 0, 1) := by decide +kernel
theorem dForms_isThere_6 : decode cForms_isThere 6 = .ok (.getfield 27, 3) := by decide +kernel
theorem dForms_isThere_9 : decode cForms_isThere 9 = .ok (.if_icmp .ge 13, 3) := by decide +kernel
theorem dForms_isThere_12 : decode cForms_isThere 12 = .ok (.iload_n 1, 1) := by decide +kernel
theorem dForms_isThere_13 : decode cForms_isThere 13 = .ok (.bipush 60, 2) := by decide +kernel
theorem dForms_isThere_15 : decode cForms_isThere 15 = .ok (.if_icmp .ge 7, 3) := by decide +kernel
theorem dForms_isThere_18 : decode cForms_isThere 18 = .ok (.iconst 1, 1) := by decide +kernel
theorem dForms_isThere_19 : decode cForms_isThere 19 = .ok (.goto 4, 3) := by decide +kernel
theorem dForms_isThere_22 : decode cForms_isThere 22 = .ok (.iconst 0, 1) := by decide +kernel
theorem dForms_isThere_23 : decode cForms_isThere 23 = .ok (.ireturn, 1) := by decide +kernel
def fMain_keptValue (n : Nat) (a0 : Nat) (i1 : Int32) (i2 : Int32) (z : gS) : Option (Option Nat × gS) :=
    (g_is z a0 8).bind fun _ =>
    g_bp (fMain_findStep n a0 i1 z) fun r_3 z_2 =>
    g_n r_3 (
    some (none, z_2)) (fun a_4 =>
    (g_is z_2 a_4 4).bind fun _ =>
    g_bp (fStep_keptOf n a_4 i2 z_2) fun r_7 z_6 =>
    some (r_7, z_6))
set_option maxHeartbeats 4000000 in
set_option maxRecDepth 100000 in
theorem mMain_keptValue (l : Launch) (D : va_G) (A : Nat → Prop) (n : Nat) (z z' : gS) (a0 : Nat) (i1 : Int32) (i2 : Int32) (r : Option Nat) (hf : fMain_keptValue n a0 i1 i2 z = some (r, z')) : Met l yMain_keptValue wsMain_keptValue ({ frames := 1, cells := 0, slots := 0, locals := 21 }) (g_P D vwCl gNN gOO A z [.ref a0, .int i1, .int i2]) (g_Qq D vwCl A r z') 0 0 A := by
  refine Met.ofW (cc := cMain_keptValue) (maxL := 4) (ret := (some (.object "SecretRows$Value"))) (by decide) rfl ?_
  intro p e s m args below meth c s₁ B hml hv
  obtain ⟨rfl, hW, hK, hA0⟩ := hv
  have C : g_C p s m meth c _ cMain_keptValue 4 (some (.object "SecretRows$Value")) "SecretRows" gW D vwCl gNN gOO A := ⟨B.exec, B.bytes, B.returns, hml, findClass_of_methodNamed B.named, fun w hw => atoms_spec (ws := wsMain_keptValue) B.pre w (List.mem_cons_of_mem _ hw), B.notSynchronized, hK, fun q hq => hA0 q (by rw [← hW.1]; exact hq)⟩
  have hS : va_S A s.heap s.heap [] := va_S.rf
  have hl := lv_entry ([.ref a0, .int i1, .int i2]) (n := 4) (Nat.le_of_ble_eq_true rfl)
  rw [lg_entry_eq]
  generalize (lg_sl ([.ref a0, .int i1, .int i2]) ++ List.replicate (4 - (lg_sl ([.ref a0, .int i1, .int i2])).length) Slot.unset).toArray = ls at hl ⊢
  have hl : lv_has ls 4 [(0, .ref a0), (1, .int i1), (2, .int i2)] := hl
  obtain ⟨hx, hb, hr, hml, hown, hts, hlocks, hK, hA⟩ := id C
  unfold fMain_keptValue at hf
  refine lv_aload_n hx hb dMain_keptValue_0 rfl (lv_at hl 0 rfl) ?_
  refine lv_iload_n hx hb dMain_keptValue_1 rfl (lv_at hl 1 rfl) ?_
  replace hf := g_bd hf
  obtain ⟨_, hi_1, hf⟩ := hf
  replace hf := g_bps hf
  obtain ⟨r_3, z_2, hz_2, hf⟩ := hf
  refine g_goq (g_rV (As := [.int i1]) (rest := []) ⟨hx, hb, hml, hown, hts⟩ (mMain_findStep l D A n _ _ a0 i1 _ hz_2) (cwV 1 hts (gi_V kw_340 kw_342 ks_Main_findStep kw_1 kw_343) rfl rfl rfl ⟨rfl, hdMain_findStep⟩ ⟨Nat.le_of_ble_eq_true rfl, Nat.le_of_ble_eq_true rfl⟩) hK hW hS hA (ci := 8) (T := T_Main) (N := 14) rfl hi_1 rfl hl.1 rfl (Nat.le_of_ble_eq_true rfl) dMain_keptValue_2 ⟨Nat.le_of_ble_eq_true rfl, Nat.le_of_ble_eq_true rfl⟩) hS (fun H locs hW hS => ?_)
  refine g_astore_n (lv' := [(3, va_rf r_3), (0, .ref a0), (1, .int i1), (2, .int i2)]) hx hb dMain_keptValue_5 rfl hl (by decide) rfl (fun _ hl1 => ?_)
  clear hl
  have hl := hl1
  clear hl1
  refine g_aload_n hx hb dMain_keptValue_6 rfl (lv_at hl 0 rfl) ?_
  cases r_3 with
  | none =>
    replace hf := g_n0 hf
    replace hl : lv_has _ 4 [(3, .null), (0, .ref a0), (1, .int i1), (2, .int i2)] := hl
    refine W.eq (g2 := F0 m 7 _ [.null]) rfl ?_
    refine lv_ifnonnullN hx hb dMain_keptValue_7 ?_
    refine lv_null hx hb dMain_keptValue_10 ?_
    refine lv_goto (tgt := 19) hx hb dMain_keptValue_11 (by decide) ?_
    cases hf
    exact g_reta (v := none) hx hb hr (Or.inl ⟨_, rfl⟩) hlocks hW hS (Nat.le_of_ble_eq_true rfl) (Nat.le_of_ble_eq_true rfl) dMain_keptValue_19
  | some a_4 =>
    replace hf := g_n1 hf
    replace hl : lv_has _ 4 [(3, .ref a_4), (0, .ref a0), (1, .int i1), (2, .int i2)] := hl
    refine W.eq (g2 := F0 m 7 _ [.ref a_4]) rfl ?_
    refine lv_ifnonnull (tgt := 14) hx hb dMain_keptValue_7 (by decide) ?_
    refine lv_aload_n hx hb dMain_keptValue_14 rfl (lv_at hl 0 rfl) ?_
    refine lv_iload_n hx hb dMain_keptValue_15 rfl (lv_at hl 3 rfl) ?_
    replace hf := g_bd hf
    obtain ⟨_, hi_5, hf⟩ := hf
    replace hf := g_bps hf
    obtain ⟨r_7, z_6, hz_6, hf⟩ := hf
    refine g_goq (g_rV (As := [.int i2]) (rest := []) ⟨hx, hb, hml, hown, hts⟩ (mStep_keptOf l D A n _ _ a_4 i2 _ hz_6) (cwV 1 hts (gi_V kw_356 kw_357 kw_358 kw_9 kw_359) rfl rfl rfl ⟨rfl, hdStep_keptOf⟩ ⟨Nat.le_of_ble_eq_true rfl, Nat.le_of_ble_eq_true rfl⟩) hK hW hS hA (ci := 4) (T := T_Step) (N := 2) rfl hi_5 rfl hl.1 rfl (Nat.le_of_ble_eq_true rfl) dMain_keptValue_16 ⟨Nat.le_of_ble_eq_true rfl, Nat.le_of_ble_eq_true rfl⟩) hS (fun H locs hW hS => ?_)
    cases hf
    exact g_reta (v := _) hx hb hr (Or.inl ⟨_, rfl⟩) hlocks hW hS (Nat.le_of_ble_eq_true rfl) (Nat.le_of_ble_eq_true rfl) dMain_keptValue_19

def fAudit_tell (n : Nat) (a0 : Nat) (i1 : Int32) (i2 : Int32) (i3 : Int32) (z : gS) : Option (gS) :=
    (g_fI z a0 6 1).bind fun v_1 =>
    if (v_1 * 3) < 0 then (
    some z)
    else (
    (g_fR z a0 6 0).bind fun r_3 =>
    r_3.bind fun a_4 =>
    (g_len z a_4).bind fun v_5 =>
    if ((v_1 * 3) + 2) < v_5 then (
    (g_fR z a0 6 0).bind fun r_7 =>
    r_7.bind fun a_8 =>
    (g_stI z .int a_8 (v_1 * 3) i1).bind fun z_9 =>
    (g_fR z_9 a0 6 0).bind fun r_10 =>
    r_10.bind fun a_11 =>
    (g_stI z_9 .int a_11 ((v_1 * 3) + 1) i2).bind fun z_12 =>
    (g_fR z_12 a0 6 0).bind fun r_13 =>
    r_13.bind fun a_14 =>
    (g_stI z_12 .int a_14 ((v_1 * 3) + 2) i3).bind fun z_15 =>
    (g_fI z_15 a0 6 1).bind fun v_16 =>
    (g_pF z_15 a0 6 1 (.int (v_16 + 1))).bind fun z_17 =>
    some z_17)
    else (
    some z))
set_option maxHeartbeats 4000000 in
set_option maxRecDepth 100000 in
theorem mAudit_tell (l : Launch) (D : va_G) (A : Nat → Prop) (n : Nat) (z z' : gS) (a0 : Nat) (i1 : Int32) (i2 : Int32) (i3 : Int32) (hf : fAudit_tell n a0 i1 i2 i3 z = some z') : Met l yAudit_tell wsAudit_tell ({ frames := 0, cells := 0, slots := 0, locals := 0 }) (g_P D vwCl gNN gOO A z [.ref a0, .int i1, .int i2, .int i3]) (g_Qv D vwCl A z') 0 0 A := by
  refine Met.ofW (cc := cAudit_tell) (maxL := 5) (ret := none) (by decide) rfl ?_
  intro p e s m args below meth c s₁ B hml hv
  obtain ⟨rfl, hW, hK, hA0⟩ := hv
  have C : g_C p s m meth c _ cAudit_tell 5 none "SecretRows$Audit" gW D vwCl gNN gOO A := ⟨B.exec, B.bytes, B.returns, hml, findClass_of_methodNamed B.named, fun w hw => atoms_spec (ws := wsAudit_tell) B.pre w (List.mem_cons_of_mem _ hw), B.notSynchronized, hK, fun q hq => hA0 q (by rw [← hW.1]; exact hq)⟩
  have hS : va_S A s.heap s.heap [] := va_S.rf
  have hl := lv_entry ([.ref a0, .int i1, .int i2, .int i3]) (n := 5) (Nat.le_of_ble_eq_true rfl)
  rw [lg_entry_eq]
  generalize (lg_sl ([.ref a0, .int i1, .int i2, .int i3]) ++ List.replicate (5 - (lg_sl ([.ref a0, .int i1, .int i2, .int i3])).length) Slot.unset).toArray = ls at hl ⊢
  have hl : lv_has ls 5 [(0, .ref a0), (1, .int i1), (2, .int i2), (3, .int i3)] := hl
  obtain ⟨hx, hb, hr, hml, hown, hts, hlocks, hK, hA⟩ := id C
  unfold fAudit_tell at hf
  refine lv_aload_n hx hb dAudit_tell_0 rfl (lv_at hl 0 rfl) ?_
  replace hf := g_bd hf
  obtain ⟨v_1, hv_1, hf⟩ := hf
  refine g_getI hx hb hts in_Audit hown hK hW (ci := 6) (C := "SecretRows$Audit") (T := T_Audit) (N := 2) rfl (k := 1) (by decide) (hts _ kw_33) (fun _ h9 => h9) hv_1 dAudit_tell_1 ?_
  refine lv_iconst (v := 3) hx hb dAudit_tell_4 (by decide) ?_
  refine lv_imul hx hb dAudit_tell_5 ?_
  refine lv_istore (lv' := [(4, .int (v_1 * 3)), (0, .ref a0), (1, .int i1), (2, .int i2), (3, .int i3)]) hx hb dAudit_tell_6 hl (by decide) rfl (fun _ hl1 => ?_)
  clear hl
  have hl := hl1
  clear hl1
  refine lv_iload hx hb dAudit_tell_8 (lv_at hl 0 rfl) ?_
  refine lv_if_lt (tgt := 25) hx hb dAudit_tell_10 (by decide) (fun c_2 => ?_) (fun c_2 => ?_)
  · replace hf := g_it c_2 hf
    cases hf
    exact g_retv hx hb hr hlocks hW hS (Nat.le_of_ble_eq_true rfl) (Nat.le_of_ble_eq_true rfl) dAudit_tell_25
  · replace hf := g_if c_2 hf
    refine lv_iload hx hb dAudit_tell_13 (lv_at hl 0 rfl) ?_
    refine lv_iconst (v := 2) hx hb dAudit_tell_15 (by decide) ?_
    refine lv_iadd hx hb dAudit_tell_16 ?_
    refine lv_aload_n hx hb dAudit_tell_17 rfl (lv_at hl 1 rfl) ?_
    replace hf := g_bd hf
    obtain ⟨r_3, hr_3, hf⟩ := hf
    refine g_getR hx hb hts in_Audit hown hK hW (ci := 6) (C := "SecretRows$Audit") (T := T_Audit) (N := 2) rfl (k := 0) (by decide) (hts _ kw_32) (fun _ h9 => h9) hr_3 dAudit_tell_18 ?_
    replace hf := g_bd hf
    obtain ⟨a_4, ea_4, hf⟩ := hf
    subst ea_4
    refine W.eq (g2 := F0 m 21 _ [.ref a_4, .int ((v_1 * 3) + 2)]) rfl ?_
    replace hf := g_bd hf
    obtain ⟨v_5, hv_5, hf⟩ := hf
    refine g_alen hx hb hK hW hv_5 dAudit_tell_21 ?_
    refine lv_icmp_lt (tgt := 26) hx hb dAudit_tell_22 (by decide) (fun c_6 => ?_) (fun c_6 => ?_)
    · replace hf := g_it c_6 hf
      refine lv_aload_n hx hb dAudit_tell_26 rfl (lv_at hl 1 rfl) ?_
      replace hf := g_bd hf
      obtain ⟨r_7, hr_7, hf⟩ := hf
      refine g_getR hx hb hts in_Audit hown hK hW (ci := 6) (C := "SecretRows$Audit") (T := T_Audit) (N := 2) rfl (k := 0) (by decide) (hts _ kw_32) (fun _ h9 => h9) hr_7 dAudit_tell_27 ?_
      refine lv_iload hx hb dAudit_tell_30 (lv_at hl 0 rfl) ?_
      refine lv_iload_n hx hb dAudit_tell_32 rfl (lv_at hl 2 rfl) ?_
      replace hf := g_bd hf
      obtain ⟨a_8, ea_8, hf⟩ := hf
      subst ea_8
      refine W.eq (g2 := F0 m 33 _ [.int i1, .int (v_1 * 3), .ref a_8]) rfl ?_
      replace hf := g_bd hf
      obtain ⟨z_9, hz_9, hf⟩ := hf
      refine g_ast_i hx hb hW hS hz_9 dAudit_tell_33 (fun H locs hW hS => ?_)
      refine lv_aload_n hx hb dAudit_tell_34 rfl (lv_at hl 1 rfl) ?_
      replace hf := g_bd hf
      obtain ⟨r_10, hr_10, hf⟩ := hf
      refine g_getR hx hb hts in_Audit hown hK hW (ci := 6) (C := "SecretRows$Audit") (T := T_Audit) (N := 2) rfl (k := 0) (by decide) (hts _ kw_32) (fun _ h9 => h9) hr_10 dAudit_tell_35 ?_
      refine lv_iload hx hb dAudit_tell_38 (lv_at hl 0 rfl) ?_
      refine lv_iconst (v := 1) hx hb dAudit_tell_40 (by decide) ?_
      refine lv_iadd hx hb dAudit_tell_41 ?_
      refine lv_iload_n hx hb dAudit_tell_42 rfl (lv_at hl 3 rfl) ?_
      replace hf := g_bd hf
      obtain ⟨a_11, ea_11, hf⟩ := hf
      subst ea_11
      refine W.eq (g2 := F0 m 43 _ [.int i2, .int ((v_1 * 3) + 1), .ref a_11]) rfl ?_
      replace hf := g_bd hf
      obtain ⟨z_12, hz_12, hf⟩ := hf
      refine g_ast_i hx hb hW hS hz_12 dAudit_tell_43 (fun H locs hW hS => ?_)
      refine lv_aload_n hx hb dAudit_tell_44 rfl (lv_at hl 1 rfl) ?_
      replace hf := g_bd hf
      obtain ⟨r_13, hr_13, hf⟩ := hf
      refine g_getR hx hb hts in_Audit hown hK hW (ci := 6) (C := "SecretRows$Audit") (T := T_Audit) (N := 2) rfl (k := 0) (by decide) (hts _ kw_32) (fun _ h9 => h9) hr_13 dAudit_tell_45 ?_
      refine lv_iload hx hb dAudit_tell_48 (lv_at hl 0 rfl) ?_
      refine lv_iconst (v := 2) hx hb dAudit_tell_50 (by decide) ?_
      refine lv_iadd hx hb dAudit_tell_51 ?_
      refine lv_iload_n hx hb dAudit_tell_52 rfl (lv_at hl 4 rfl) ?_
      replace hf := g_bd hf
      obtain ⟨a_14, ea_14, hf⟩ := hf
      subst ea_14
      refine W.eq (g2 := F0 m 53 _ [.int i3, .int ((v_1 * 3) + 2), .ref a_14]) rfl ?_
      replace hf := g_bd hf
      obtain ⟨z_15, hz_15, hf⟩ := hf
      refine g_ast_i hx hb hW hS hz_15 dAudit_tell_53 (fun H locs hW hS => ?_)
      refine lv_aload_n hx hb dAudit_tell_54 rfl (lv_at hl 1 rfl) ?_
      refine lv_dup hx hb dAudit_tell_55 rfl ?_
      replace hf := g_bd hf
      obtain ⟨v_16, hv_16, hf⟩ := hf
      refine g_getI hx hb hts in_Audit hown hK hW (ci := 6) (C := "SecretRows$Audit") (T := T_Audit) (N := 2) rfl (k := 1) (by decide) (hts _ kw_33) (fun _ h9 => h9) hv_16 dAudit_tell_56 ?_
      refine lv_iconst (v := 1) hx hb dAudit_tell_59 (by decide) ?_
      refine lv_iadd hx hb dAudit_tell_60 ?_
      replace hf := g_bd hf
      obtain ⟨z_17, hz_17, hf⟩ := hf
      refine g_put hx hb hts in_Audit ty_Audit tyok_Audit nm_Audit hown hK hW hS (ci := 6) (C := "SecretRows$Audit") (T := T_Audit) (N := 2) rfl (k := 1) (by decide) (hts _ kw_33) (fun _ h9 => h9) rfl (ty := .int) (by decide +kernel) rfl rfl hz_17 dAudit_tell_61 (fun H locs hW hS => ?_)
      cases hf
      exact g_retv hx hb hr hlocks hW hS (Nat.le_of_ble_eq_true rfl) (Nat.le_of_ble_eq_true rfl) dAudit_tell_64
    · replace hf := g_if c_6 hf
      cases hf
      exact g_retv hx hb hr hlocks hW hS (Nat.le_of_ble_eq_true rfl) (Nat.le_of_ble_eq_true rfl) dAudit_tell_25

def fMain_read (n : Nat) (a0 : Nat) (i1 : Int32) (i2 : Int32) (i3 : Int32) (z : gS) : Option (Int32 × gS) :=
    (g_is z a0 8).bind fun _ =>
    g_bp (fMain_keptValue n a0 i1 i2 z) fun r_3 z_2 =>
    g_n r_3 (
    some ((-1), z_2)) (fun a_4 =>
    (g_fR z_2 a0 8 3).bind fun r_5 =>
    (g_fI z_2 a0 8 10).bind fun v_6 =>
    r_5.bind fun a_7 =>
    (g_is z_2 a_7 6).bind fun _ =>
    (fAudit_tell n a_7 i1 i2 v_6 z_2).bind fun z_9 =>
    (g_fR z_9 a_4 1 1).bind fun r_10 =>
    r_10.bind fun a_11 =>
    (g_is z_9 a_11 0).bind fun _ =>
    g_bp (fText_at n a_11 i3 z_9) fun v_14 z_13 =>
    some (v_14, z_13))
set_option maxHeartbeats 4000000 in
set_option maxRecDepth 100000 in
theorem mMain_read (l : Launch) (D : va_G) (A : Nat → Prop) (n : Nat) (z z' : gS) (a0 : Nat) (i1 : Int32) (i2 : Int32) (i3 : Int32) (r : Int32) (hf : fMain_read n a0 i1 i2 i3 z = some (r, z')) : Met l yMain_read wsMain_read ({ frames := 2, cells := 0, slots := 0, locals := 44 }) (g_P D vwCl gNN gOO A z [.ref a0, .int i1, .int i2, .int i3]) (g_Qi D vwCl A r z') 0 0 A := by
  refine Met.ofW (cc := cMain_read) (maxL := 5) (ret := (some .int)) (by decide) rfl ?_
  intro p e s m args below meth c s₁ B hml hv
  obtain ⟨rfl, hW, hK, hA0⟩ := hv
  have C : g_C p s m meth c _ cMain_read 5 (some .int) "SecretRows" gW D vwCl gNN gOO A := ⟨B.exec, B.bytes, B.returns, hml, findClass_of_methodNamed B.named, fun w hw => atoms_spec (ws := wsMain_read) B.pre w (List.mem_cons_of_mem _ hw), B.notSynchronized, hK, fun q hq => hA0 q (by rw [← hW.1]; exact hq)⟩
  have hS : va_S A s.heap s.heap [] := va_S.rf
  have hl := lv_entry ([.ref a0, .int i1, .int i2, .int i3]) (n := 5) (Nat.le_of_ble_eq_true rfl)
  rw [lg_entry_eq]
  generalize (lg_sl ([.ref a0, .int i1, .int i2, .int i3]) ++ List.replicate (5 - (lg_sl ([.ref a0, .int i1, .int i2, .int i3])).length) Slot.unset).toArray = ls at hl ⊢
  have hl : lv_has ls 5 [(0, .ref a0), (1, .int i1), (2, .int i2), (3, .int i3)] := hl
  obtain ⟨hx, hb, hr, hml, hown, hts, hlocks, hK, hA⟩ := id C
  unfold fMain_read at hf
  refine lv_aload_n hx hb dMain_read_0 rfl (lv_at hl 0 rfl) ?_
  refine lv_iload_n hx hb dMain_read_1 rfl (lv_at hl 1 rfl) ?_
  refine lv_iload_n hx hb dMain_read_2 rfl (lv_at hl 2 rfl) ?_
  replace hf := g_bd hf
  obtain ⟨_, hi_1, hf⟩ := hf
  replace hf := g_bps hf
  obtain ⟨r_3, z_2, hz_2, hf⟩ := hf
  refine g_goq (g_rV (As := [.int i1, .int i2]) (rest := []) ⟨hx, hb, hml, hown, hts⟩ (mMain_keptValue l D A n _ _ a0 i1 i2 _ hz_2) (cwV 2 hts (gi_V kw_352 kw_354 ks_Main_keptValue kw_1 kw_355) rfl rfl rfl ⟨rfl, hdMain_keptValue⟩ ⟨Nat.le_of_ble_eq_true rfl, Nat.le_of_ble_eq_true rfl⟩) hK hW hS hA (ci := 8) (T := T_Main) (N := 14) rfl hi_1 rfl hl.1 rfl (Nat.le_of_ble_eq_true rfl) dMain_read_3 ⟨Nat.le_of_ble_eq_true rfl, Nat.le_of_ble_eq_true rfl⟩) hS (fun H locs hW hS => ?_)
  refine g_astore (lv' := [(4, va_rf r_3), (0, .ref a0), (1, .int i1), (2, .int i2), (3, .int i3)]) hx hb dMain_read_6 hl (by decide) rfl (fun _ hl1 => ?_)
  clear hl
  have hl := hl1
  clear hl1
  refine g_aload hx hb dMain_read_8 (lv_at hl 0 rfl) ?_
  cases r_3 with
  | none =>
    replace hf := g_n0 hf
    replace hl : lv_has _ 5 [(4, .null), (0, .ref a0), (1, .int i1), (2, .int i2), (3, .int i3)] := hl
    refine W.eq (g2 := F0 m 10 _ [.null]) rfl ?_
    refine lv_ifnonnullN hx hb dMain_read_10 ?_
    refine lv_iconst (v := (-1)) hx hb dMain_read_13 (by decide) ?_
    cases hf
    exact g_reti hx hb hr hlocks hW hS (Nat.le_of_ble_eq_true rfl) (Nat.le_of_ble_eq_true rfl) dMain_read_14
  | some a_4 =>
    replace hf := g_n1 hf
    replace hl : lv_has _ 5 [(4, .ref a_4), (0, .ref a0), (1, .int i1), (2, .int i2), (3, .int i3)] := hl
    refine W.eq (g2 := F0 m 10 _ [.ref a_4]) rfl ?_
    refine lv_ifnonnull (tgt := 15) hx hb dMain_read_10 (by decide) ?_
    refine lv_aload_n hx hb dMain_read_15 rfl (lv_at hl 1 rfl) ?_
    replace hf := g_bd hf
    obtain ⟨r_5, hr_5, hf⟩ := hf
    refine g_getR hx hb hts in_Main hown hK hW (ci := 8) (C := "SecretRows") (T := T_Main) (N := 14) rfl (k := 3) (by decide) (hts _ kw_84) (fun _ h9 => h9) hr_5 dMain_read_16 ?_
    refine lv_iload_n hx hb dMain_read_19 rfl (lv_at hl 2 rfl) ?_
    refine lv_iload_n hx hb dMain_read_20 rfl (lv_at hl 3 rfl) ?_
    refine lv_aload_n hx hb dMain_read_21 rfl (lv_at hl 1 rfl) ?_
    replace hf := g_bd hf
    obtain ⟨v_6, hv_6, hf⟩ := hf
    refine g_getI hx hb hts in_Main hown hK hW (ci := 8) (C := "SecretRows") (T := T_Main) (N := 14) rfl (k := 10) (by decide) (hts _ kw_91) (fun _ h9 => h9) hv_6 dMain_read_22 ?_
    replace hf := g_bd hf
    obtain ⟨a_7, ea_7, hf⟩ := hf
    subst ea_7
    refine W.eq (g2 := F0 m 25 _ [.int v_6, .int i2, .int i1, .ref a_7]) rfl ?_
    replace hf := g_bd hf
    obtain ⟨_, hi_8, hf⟩ := hf
    replace hf := g_bd hf
    obtain ⟨z_9, hz_9, hf⟩ := hf
    refine g_gov (g_rV (As := [.int i1, .int i2, .int v_6]) (rest := []) ⟨hx, hb, hml, hown, hts⟩ (mAudit_tell l D A n _ _ a_7 i1 i2 v_6 hz_9) (cwV 3 hts (gi_V kw_360 kw_361 kw_362 kw_2 kw_363) rfl rfl rfl ⟨rfl, hdAudit_tell⟩ ⟨Nat.le_of_ble_eq_true rfl, Nat.le_of_ble_eq_true rfl⟩) hK hW hS hA (ci := 6) (T := T_Audit) (N := 2) rfl hi_8 rfl hl.1 rfl (Nat.le_of_ble_eq_true rfl) dMain_read_25 ⟨Nat.le_of_ble_eq_true rfl, Nat.le_of_ble_eq_true rfl⟩) hS (fun H locs hW hS => ?_)
    refine lv_aload hx hb dMain_read_28 (lv_at hl 0 rfl) ?_
    replace hf := g_bd hf
    obtain ⟨r_10, hr_10, hf⟩ := hf
    refine g_getRN hx hb hts in_Value hown hK hW (ci := 1) (C := "SecretRows$Value") (T := T_Value) (N := 4) rfl (k := 1) (by decide) (host := "SecretRows") kw_244 (fun _ h9 => h9) hr_10 dMain_read_30 ?_
    refine lv_iload_n hx hb dMain_read_33 rfl (lv_at hl 4 rfl) ?_
    replace hf := g_bd hf
    obtain ⟨a_11, ea_11, hf⟩ := hf
    subst ea_11
    refine W.eq (g2 := F0 m 34 _ [.int i3, .ref a_11]) rfl ?_
    replace hf := g_bd hf
    obtain ⟨_, hi_12, hf⟩ := hf
    replace hf := g_bps hf
    obtain ⟨v_14, z_13, hz_13, hf⟩ := hf
    refine g_goi (g_rV (As := [.int i3]) (rest := []) ⟨hx, hb, hml, hown, hts⟩ (mText_at l D A n _ _ a_11 i3 _ hz_13) (cwV 1 hts (gi_V kw_364 kw_192 kw_193 kw_3 kw_194) rfl rfl rfl ⟨rfl, hdText_at⟩ ⟨Nat.le_of_ble_eq_true rfl, Nat.le_of_ble_eq_true rfl⟩) hK hW hS hA (ci := 0) (T := T_Text) (N := 2) rfl hi_12 rfl hl.1 rfl (Nat.le_of_ble_eq_true rfl) dMain_read_34 ⟨Nat.le_of_ble_eq_true rfl, Nat.le_of_ble_eq_true rfl⟩) hS (fun H locs hW hS => ?_)
    cases hf
    exact g_reti hx hb hr hlocks hW hS (Nat.le_of_ble_eq_true rfl) (Nat.le_of_ble_eq_true rfl) dMain_read_37

def fAudit_cell (n : Nat) (a0 : Nat) (i1 : Int32) (i2 : Int32) (z : gS) : Option (Int32 × gS) :=
    if i1 < 0 then (
    some ((-1), z))
    else (
    (g_fI z a0 6 1).bind fun v_2 =>
    if v_2 ≤ i1 then (
    some ((-1), z))
    else (
    if i2 < 0 then (
    some ((-1), z))
    else (
    if i2 < 3 then (
    if ((i1 * 3) + i2) < 0 then (
    some ((-1), z))
    else (
    (g_fR z a0 6 0).bind fun r_7 =>
    r_7.bind fun a_8 =>
    (g_len z a_8).bind fun v_9 =>
    if ((i1 * 3) + i2) < v_9 then (
    (g_fR z a0 6 0).bind fun r_11 =>
    r_11.bind fun a_12 =>
    (g_ldI z .int a_12 ((i1 * 3) + i2)).bind fun v_13 =>
    some (v_13, z))
    else (
    some ((-1), z))))
    else (
    some ((-1), z)))))
set_option maxHeartbeats 4000000 in
set_option maxRecDepth 100000 in
theorem mAudit_cell (l : Launch) (D : va_G) (A : Nat → Prop) (n : Nat) (z z' : gS) (a0 : Nat) (i1 : Int32) (i2 : Int32) (r : Int32) (hf : fAudit_cell n a0 i1 i2 z = some (r, z')) : Met l yAudit_cell wsAudit_cell ({ frames := 0, cells := 0, slots := 0, locals := 0 }) (g_P D vwCl gNN gOO A z [.ref a0, .int i1, .int i2]) (g_Qi D vwCl A r z') 0 0 A := by
  refine Met.ofW (cc := cAudit_cell) (maxL := 4) (ret := (some .int)) (by decide) rfl ?_
  intro p e s m args below meth c s₁ B hml hv
  obtain ⟨rfl, hW, hK, hA0⟩ := hv
  have C : g_C p s m meth c _ cAudit_cell 4 (some .int) "SecretRows$Audit" gW D vwCl gNN gOO A := ⟨B.exec, B.bytes, B.returns, hml, findClass_of_methodNamed B.named, fun w hw => atoms_spec (ws := wsAudit_cell) B.pre w (List.mem_cons_of_mem _ hw), B.notSynchronized, hK, fun q hq => hA0 q (by rw [← hW.1]; exact hq)⟩
  have hS : va_S A s.heap s.heap [] := va_S.rf
  have hl := lv_entry ([.ref a0, .int i1, .int i2]) (n := 4) (Nat.le_of_ble_eq_true rfl)
  rw [lg_entry_eq]
  generalize (lg_sl ([.ref a0, .int i1, .int i2]) ++ List.replicate (4 - (lg_sl ([.ref a0, .int i1, .int i2])).length) Slot.unset).toArray = ls at hl ⊢
  have hl : lv_has ls 4 [(0, .ref a0), (1, .int i1), (2, .int i2)] := hl
  obtain ⟨hx, hb, hr, hml, hown, hts, hlocks, hK, hA⟩ := id C
  unfold fAudit_cell at hf
  refine lv_iload_n hx hb dAudit_cell_0 rfl (lv_at hl 1 rfl) ?_
  refine lv_if_lt (tgt := 21) hx hb dAudit_cell_1 (by decide) (fun c_1 => ?_) (fun c_1 => ?_)
  · replace hf := g_it c_1 hf
    refine lv_iconst (v := (-1)) hx hb dAudit_cell_21 (by decide) ?_
    cases hf
    exact g_reti hx hb hr hlocks hW hS (Nat.le_of_ble_eq_true rfl) (Nat.le_of_ble_eq_true rfl) dAudit_cell_22
  · replace hf := g_if c_1 hf
    refine lv_iload_n hx hb dAudit_cell_4 rfl (lv_at hl 1 rfl) ?_
    refine lv_aload_n hx hb dAudit_cell_5 rfl (lv_at hl 0 rfl) ?_
    replace hf := g_bd hf
    obtain ⟨v_2, hv_2, hf⟩ := hf
    refine g_getI hx hb hts in_Audit hown hK hW (ci := 6) (C := "SecretRows$Audit") (T := T_Audit) (N := 2) rfl (k := 1) (by decide) (hts _ kw_33) (fun _ h9 => h9) hv_2 dAudit_cell_6 ?_
    refine lv_icmp_ge (tgt := 21) hx hb dAudit_cell_9 (by decide) (fun c_3 => ?_) (fun c_3 => ?_)
    · replace hf := g_it c_3 hf
      refine lv_iconst (v := (-1)) hx hb dAudit_cell_21 (by decide) ?_
      cases hf
      exact g_reti hx hb hr hlocks hW hS (Nat.le_of_ble_eq_true rfl) (Nat.le_of_ble_eq_true rfl) dAudit_cell_22
    · replace hf := g_if c_3 hf
      refine lv_iload_n hx hb dAudit_cell_12 rfl (lv_at hl 2 rfl) ?_
      refine lv_if_lt (tgt := 21) hx hb dAudit_cell_13 (by decide) (fun c_4 => ?_) (fun c_4 => ?_)
      · replace hf := g_it c_4 hf
        refine lv_iconst (v := (-1)) hx hb dAudit_cell_21 (by decide) ?_
        cases hf
        exact g_reti hx hb hr hlocks hW hS (Nat.le_of_ble_eq_true rfl) (Nat.le_of_ble_eq_true rfl) dAudit_cell_22
      · replace hf := g_if c_4 hf
        refine lv_iload_n hx hb dAudit_cell_16 rfl (lv_at hl 2 rfl) ?_
        refine lv_iconst (v := 3) hx hb dAudit_cell_17 (by decide) ?_
        refine lv_icmp_lt (tgt := 23) hx hb dAudit_cell_18 (by decide) (fun c_5 => ?_) (fun c_5 => ?_)
        · replace hf := g_it c_5 hf
          refine lv_iload_n hx hb dAudit_cell_23 rfl (lv_at hl 1 rfl) ?_
          refine lv_iconst (v := 3) hx hb dAudit_cell_24 (by decide) ?_
          refine lv_imul hx hb dAudit_cell_25 ?_
          refine lv_iload_n hx hb dAudit_cell_26 rfl (lv_at hl 2 rfl) ?_
          refine lv_iadd hx hb dAudit_cell_27 ?_
          refine lv_istore_n (lv' := [(3, .int ((i1 * 3) + i2)), (0, .ref a0), (1, .int i1), (2, .int i2)]) hx hb dAudit_cell_28 rfl hl (by decide) rfl (fun _ hl1 => ?_)
          clear hl
          have hl := hl1
          clear hl1
          refine lv_iload_n hx hb dAudit_cell_29 rfl (lv_at hl 0 rfl) ?_
          refine lv_if_lt (tgt := 42) hx hb dAudit_cell_30 (by decide) (fun c_6 => ?_) (fun c_6 => ?_)
          · replace hf := g_it c_6 hf
            refine lv_iconst (v := (-1)) hx hb dAudit_cell_42 (by decide) ?_
            refine lv_goto (tgt := 52) hx hb dAudit_cell_43 (by decide) ?_
            cases hf
            exact g_reti hx hb hr hlocks hW hS (Nat.le_of_ble_eq_true rfl) (Nat.le_of_ble_eq_true rfl) dAudit_cell_52
          · replace hf := g_if c_6 hf
            refine lv_iload_n hx hb dAudit_cell_33 rfl (lv_at hl 0 rfl) ?_
            refine lv_aload_n hx hb dAudit_cell_34 rfl (lv_at hl 1 rfl) ?_
            replace hf := g_bd hf
            obtain ⟨r_7, hr_7, hf⟩ := hf
            refine g_getR hx hb hts in_Audit hown hK hW (ci := 6) (C := "SecretRows$Audit") (T := T_Audit) (N := 2) rfl (k := 0) (by decide) (hts _ kw_32) (fun _ h9 => h9) hr_7 dAudit_cell_35 ?_
            replace hf := g_bd hf
            obtain ⟨a_8, ea_8, hf⟩ := hf
            subst ea_8
            refine W.eq (g2 := F0 m 38 _ [.ref a_8, .int ((i1 * 3) + i2)]) rfl ?_
            replace hf := g_bd hf
            obtain ⟨v_9, hv_9, hf⟩ := hf
            refine g_alen hx hb hK hW hv_9 dAudit_cell_38 ?_
            refine lv_icmp_lt (tgt := 46) hx hb dAudit_cell_39 (by decide) (fun c_10 => ?_) (fun c_10 => ?_)
            · replace hf := g_it c_10 hf
              refine lv_aload_n hx hb dAudit_cell_46 rfl (lv_at hl 1 rfl) ?_
              replace hf := g_bd hf
              obtain ⟨r_11, hr_11, hf⟩ := hf
              refine g_getR hx hb hts in_Audit hown hK hW (ci := 6) (C := "SecretRows$Audit") (T := T_Audit) (N := 2) rfl (k := 0) (by decide) (hts _ kw_32) (fun _ h9 => h9) hr_11 dAudit_cell_47 ?_
              refine lv_iload_n hx hb dAudit_cell_50 rfl (lv_at hl 0 rfl) ?_
              replace hf := g_bd hf
              obtain ⟨a_12, ea_12, hf⟩ := hf
              subst ea_12
              refine W.eq (g2 := F0 m 51 _ [.int ((i1 * 3) + i2), .ref a_12]) rfl ?_
              replace hf := g_bd hf
              obtain ⟨v_13, hv_13, hf⟩ := hf
              refine g_ald_i hx hb hK hW hv_13 dAudit_cell_51 ?_
              cases hf
              exact g_reti hx hb hr hlocks hW hS (Nat.le_of_ble_eq_true rfl) (Nat.le_of_ble_eq_true rfl) dAudit_cell_52
            · replace hf := g_if c_10 hf
              refine lv_iconst (v := (-1)) hx hb dAudit_cell_42 (by decide) ?_
              refine lv_goto (tgt := 52) hx hb dAudit_cell_43 (by decide) ?_
              cases hf
              exact g_reti hx hb hr hlocks hW hS (Nat.le_of_ble_eq_true rfl) (Nat.le_of_ble_eq_true rfl) dAudit_cell_52
        · replace hf := g_if c_5 hf
          refine lv_iconst (v := (-1)) hx hb dAudit_cell_21 (by decide) ?_
          cases hf
          exact g_reti hx hb hr hlocks hW hS (Nat.le_of_ble_eq_true rfl) (Nat.le_of_ble_eq_true rfl) dAudit_cell_22

def fMain_audit (n : Nat) (a0 : Nat) (i1 : Int32) (i2 : Int32) (z : gS) : Option (Int32 × gS) :=
    (g_fR z a0 8 3).bind fun r_1 =>
    r_1.bind fun a_2 =>
    (g_is z a_2 6).bind fun _ =>
    g_bp (fAudit_cell n a_2 i1 i2 z) fun v_5 z_4 =>
    some (v_5, z_4)
set_option maxHeartbeats 4000000 in
set_option maxRecDepth 100000 in
theorem mMain_audit (l : Launch) (D : va_G) (A : Nat → Prop) (n : Nat) (z z' : gS) (a0 : Nat) (i1 : Int32) (i2 : Int32) (r : Int32) (hf : fMain_audit n a0 i1 i2 z = some (r, z')) : Met l yMain_audit wsMain_audit ({ frames := 1, cells := 0, slots := 0, locals := 23 }) (g_P D vwCl gNN gOO A z [.ref a0, .int i1, .int i2]) (g_Qi D vwCl A r z') 0 0 A := by
  refine Met.ofW (cc := cMain_audit) (maxL := 3) (ret := (some .int)) (by decide) rfl ?_
  intro p e s m args below meth c s₁ B hml hv
  obtain ⟨rfl, hW, hK, hA0⟩ := hv
  have C : g_C p s m meth c _ cMain_audit 3 (some .int) "SecretRows" gW D vwCl gNN gOO A := ⟨B.exec, B.bytes, B.returns, hml, findClass_of_methodNamed B.named, fun w hw => atoms_spec (ws := wsMain_audit) B.pre w (List.mem_cons_of_mem _ hw), B.notSynchronized, hK, fun q hq => hA0 q (by rw [← hW.1]; exact hq)⟩
  have hS : va_S A s.heap s.heap [] := va_S.rf
  have hl := lv_entry ([.ref a0, .int i1, .int i2]) (n := 3) (Nat.le_of_ble_eq_true rfl)
  rw [lg_entry_eq]
  generalize (lg_sl ([.ref a0, .int i1, .int i2]) ++ List.replicate (3 - (lg_sl ([.ref a0, .int i1, .int i2])).length) Slot.unset).toArray = ls at hl ⊢
  have hl : lv_has ls 3 [(0, .ref a0), (1, .int i1), (2, .int i2)] := hl
  obtain ⟨hx, hb, hr, hml, hown, hts, hlocks, hK, hA⟩ := id C
  unfold fMain_audit at hf
  refine lv_aload_n hx hb dMain_audit_0 rfl (lv_at hl 0 rfl) ?_
  replace hf := g_bd hf
  obtain ⟨r_1, hr_1, hf⟩ := hf
  refine g_getR hx hb hts in_Main hown hK hW (ci := 8) (C := "SecretRows") (T := T_Main) (N := 14) rfl (k := 3) (by decide) (hts _ kw_84) (fun _ h9 => h9) hr_1 dMain_audit_1 ?_
  refine lv_iload_n hx hb dMain_audit_4 rfl (lv_at hl 1 rfl) ?_
  refine lv_iload_n hx hb dMain_audit_5 rfl (lv_at hl 2 rfl) ?_
  replace hf := g_bd hf
  obtain ⟨a_2, ea_2, hf⟩ := hf
  subst ea_2
  refine W.eq (g2 := F0 m 6 _ [.int i2, .int i1, .ref a_2]) rfl ?_
  replace hf := g_bd hf
  obtain ⟨_, hi_3, hf⟩ := hf
  replace hf := g_bps hf
  obtain ⟨v_5, z_4, hz_4, hf⟩ := hf
  refine g_goi (g_rV (As := [.int i1, .int i2]) (rest := []) ⟨hx, hb, hml, hown, hts⟩ (mAudit_cell l D A n _ _ a_2 i1 i2 _ hz_4) (cwV 2 hts (gi_V kw_369 kw_370 kw_371 kw_2 kw_372) rfl rfl rfl ⟨rfl, hdAudit_cell⟩ ⟨Nat.le_of_ble_eq_true rfl, Nat.le_of_ble_eq_true rfl⟩) hK hW hS hA (ci := 6) (T := T_Audit) (N := 2) rfl hi_3 rfl hl.1 rfl (Nat.le_of_ble_eq_true rfl) dMain_audit_6 ⟨Nat.le_of_ble_eq_true rfl, Nat.le_of_ble_eq_true rfl⟩) hS (fun H locs hW hS => ?_)
  cases hf
  exact g_reti hx hb hr hlocks hW hS (Nat.le_of_ble_eq_true rfl) (Nat.le_of_ble_eq_true rfl) dMain_audit_9

def fLog_takes (n : Nat) (a0 : Nat) (i1 : Int32) (z : gS) : Option (Int32 × gS) :=
    (g_fI z a0 3 4).bind fun v_1 =>
    if v_1 = 0 then (
    (g_fR z a0 3 0).bind fun r_3 =>
    r_3.bind fun a_4 =>
    (g_is z a_4 0).bind fun _ =>
    g_bp (fText_length n a_4 z) fun v_7 z_6 =>
    if (300 - v_7) < i1 then (
    some (0, z_6))
    else (
    some (1, z_6)))
    else (
    some (0, z))
set_option maxHeartbeats 4000000 in
set_option maxRecDepth 100000 in
theorem mLog_takes (l : Launch) (D : va_G) (A : Nat → Prop) (n : Nat) (z z' : gS) (a0 : Nat) (i1 : Int32) (r : Int32) (hf : fLog_takes n a0 i1 z = some (r, z')) : Met l yLog_takes wsLog_takes ({ frames := 1, cells := 0, slots := 0, locals := 20 }) (g_P D vwCl gNN gOO A z [.ref a0, .int i1]) (g_Qi D vwCl A r z') 0 0 A := by
  refine Met.ofW (cc := cLog_takes) (maxL := 2) (ret := (some .boolean)) (by decide) rfl ?_
  intro p e s m args below meth c s₁ B hml hv
  obtain ⟨rfl, hW, hK, hA0⟩ := hv
  have C : g_C p s m meth c _ cLog_takes 2 (some .boolean) "SecretRows$Log" gW D vwCl gNN gOO A := ⟨B.exec, B.bytes, B.returns, hml, findClass_of_methodNamed B.named, fun w hw => atoms_spec (ws := wsLog_takes) B.pre w (List.mem_cons_of_mem _ hw), B.notSynchronized, hK, fun q hq => hA0 q (by rw [← hW.1]; exact hq)⟩
  have hS : va_S A s.heap s.heap [] := va_S.rf
  have hl := lv_entry ([.ref a0, .int i1]) (n := 2) (Nat.le_of_ble_eq_true rfl)
  rw [lg_entry_eq]
  generalize (lg_sl ([.ref a0, .int i1]) ++ List.replicate (2 - (lg_sl ([.ref a0, .int i1])).length) Slot.unset).toArray = ls at hl ⊢
  have hl : lv_has ls 2 [(0, .ref a0), (1, .int i1)] := hl
  obtain ⟨hx, hb, hr, hml, hown, hts, hlocks, hK, hA⟩ := id C
  unfold fLog_takes at hf
  refine lv_aload_n hx hb dLog_takes_0 rfl (lv_at hl 0 rfl) ?_
  replace hf := g_bd hf
  obtain ⟨v_1, hv_1, hf⟩ := hf
  refine g_getI hx hb hts in_Log hown hK hW (ci := 3) (C := "SecretRows$Log") (T := T_Log) (N := 5) rfl (k := 4) (by decide) (hts _ kw_303) (fun _ h9 => h9) hv_1 dLog_takes_1 ?_
  refine lv_if_ne (tgt := 26) hx hb dLog_takes_4 (by decide) (fun c_2 => ?_) (fun c_2 => ?_)
  · replace hf := g_if c_2 hf
    refine lv_iconst (v := 0) hx hb dLog_takes_26 (by decide) ?_
    cases hf
    exact g_retz hx hb hr rfl hlocks hW hS (Nat.le_of_ble_eq_true rfl) (Nat.le_of_ble_eq_true rfl) dLog_takes_27
  · replace hf := g_it c_2 hf
    refine lv_iload_n hx hb dLog_takes_7 rfl (lv_at hl 1 rfl) ?_
    refine lv_sipush (v := 300) hx hb dLog_takes_8 (by decide) ?_
    refine lv_aload_n hx hb dLog_takes_11 rfl (lv_at hl 0 rfl) ?_
    replace hf := g_bd hf
    obtain ⟨r_3, hr_3, hf⟩ := hf
    refine g_getR hx hb hts in_Log hown hK hW (ci := 3) (C := "SecretRows$Log") (T := T_Log) (N := 5) rfl (k := 0) (by decide) (hts _ kw_297) (fun _ h9 => h9) hr_3 dLog_takes_12 ?_
    replace hf := g_bd hf
    obtain ⟨a_4, ea_4, hf⟩ := hf
    subst ea_4
    refine W.eq (g2 := F0 m 15 _ [.ref a_4, .int 300, .int i1]) rfl ?_
    replace hf := g_bd hf
    obtain ⟨_, hi_5, hf⟩ := hf
    replace hf := g_bps hf
    obtain ⟨v_7, z_6, hz_6, hf⟩ := hf
    refine g_goi (g_rV (As := []) (rest := [.int 300, .int i1]) ⟨hx, hb, hml, hown, hts⟩ (mText_length l D A n _ _ a_4 _ hz_6) (cwV 0 hts (gi_V kw_385 kw_184 kw_185 kw_3 kw_186) rfl rfl rfl ⟨rfl, hdText_length⟩ ⟨Nat.le_of_ble_eq_true rfl, Nat.le_of_ble_eq_true rfl⟩) hK hW hS hA (ci := 0) (T := T_Text) (N := 2) rfl hi_5 rfl hl.1 rfl (Nat.le_of_ble_eq_true rfl) dLog_takes_15 ⟨Nat.le_of_ble_eq_true rfl, Nat.le_of_ble_eq_true rfl⟩) hS (fun H locs hW hS => ?_)
    refine lv_isub hx hb dLog_takes_18 ?_
    refine lv_icmp_gt (tgt := 26) hx hb dLog_takes_19 (by decide) (fun c_8 => ?_) (fun c_8 => ?_)
    · replace hf := g_it c_8 hf
      refine lv_iconst (v := 0) hx hb dLog_takes_26 (by decide) ?_
      cases hf
      exact g_retz hx hb hr rfl hlocks hW hS (Nat.le_of_ble_eq_true rfl) (Nat.le_of_ble_eq_true rfl) dLog_takes_27
    · replace hf := g_if c_8 hf
      refine lv_iconst (v := 1) hx hb dLog_takes_22 (by decide) ?_
      refine lv_goto (tgt := 27) hx hb dLog_takes_23 (by decide) ?_
      cases hf
      exact g_retz hx hb hr rfl hlocks hW hS (Nat.le_of_ble_eq_true rfl) (Nat.le_of_ble_eq_true rfl) dLog_takes_27

def fForms_clear (n : Nat) (a0 : Nat) (z : gS) : Option (gS) :=
    (g_pF z a0 7 4 (.int 0)).bind fun z_1 =>
    some z_1
set_option maxHeartbeats 4000000 in
set_option maxRecDepth 100000 in
theorem mForms_clear (l : Launch) (D : va_G) (A : Nat → Prop) (n : Nat) (z z' : gS) (a0 : Nat) (hf : fForms_clear n a0 z = some z') : Met l yForms_clear wsForms_clear ({ frames := 0, cells := 0, slots := 0, locals := 0 }) (g_P D vwCl gNN gOO A z [.ref a0]) (g_Qv D vwCl A z') 0 0 A := by
  refine Met.ofW (cc := cForms_clear) (maxL := 1) (ret := none) (by decide) rfl ?_
  intro p e s m args below meth c s₁ B hml hv
  obtain ⟨rfl, hW, hK, hA0⟩ := hv
  have C : g_C p s m meth c _ cForms_clear 1 none "SecretRows$Forms" gW D vwCl gNN gOO A := ⟨B.exec, B.bytes, B.returns, hml, findClass_of_methodNamed B.named, fun w hw => atoms_spec (ws := wsForms_clear) B.pre w (List.mem_cons_of_mem _ hw), B.notSynchronized, hK, fun q hq => hA0 q (by rw [← hW.1]; exact hq)⟩
  have hS : va_S A s.heap s.heap [] := va_S.rf
  have hl := lv_entry ([.ref a0]) (n := 1) (Nat.le_of_ble_eq_true rfl)
  rw [lg_entry_eq]
  generalize (lg_sl ([.ref a0]) ++ List.replicate (1 - (lg_sl ([.ref a0])).length) Slot.unset).toArray = ls at hl ⊢
  have hl : lv_has ls 1 [(0, .ref a0)] := hl
  obtain ⟨hx, hb, hr, hml, hown, hts, hlocks, hK, hA⟩ := id C
  unfold fForms_clear at hf
  refine lv_aload_n hx hb dForms_clear_0 rfl (lv_at hl 0 rfl) ?_
  refine lv_iconst (v := 0) hx hb dForms_clear_1 (by decide) ?_
  replace hf := g_bd hf
  obtain ⟨z_1, hz_1, hf⟩ := hf
  refine g_put hx hb hts in_Forms ty_Forms tyok_Forms nm_Forms hown hK hW hS (ci := 7) (C := "SecretRows$Forms") (T := T_Forms) (N := 5) rfl (k := 4) (by decide) (hts _ kw_69) (fun _ h9 => h9) rfl (ty := .int) (by decide +kernel) rfl rfl hz_1 dForms_clear_2 (fun H locs hW hS => ?_)
  cases hf
  exact g_retv hx hb hr hlocks hW hS (Nat.le_of_ble_eq_true rfl) (Nat.le_of_ble_eq_true rfl) dForms_clear_5

def fForms_add (n : Nat) (a0 : Nat) (a1 : Nat) (i2 : Int32) (i3 : Int32) (i4 : Int32) (z : gS) : Option (gS) :=
    (g_fI z a0 7 4).bind fun v_1 =>
    if v_1 < 0 then (
    some z)
    else (
    (g_fI z a0 7 4).bind fun v_3 =>
    if v_3 < 60 then (
    (g_fR z a0 7 0).bind fun r_5 =>
    (g_fI z a0 7 4).bind fun v_6 =>
    r_5.bind fun a_7 =>
    (g_is z a1 0).bind fun _ =>
    (g_stR z (.object "SecretRows$Text") a_7 v_6 (some a1)).bind fun z_8 =>
    (g_fR z_8 a0 7 1).bind fun r_9 =>
    (g_fI z_8 a0 7 4).bind fun v_10 =>
    r_9.bind fun a_11 =>
    (g_stI z_8 .int a_11 v_10 i2).bind fun z_12 =>
    (g_fR z_12 a0 7 2).bind fun r_13 =>
    (g_fI z_12 a0 7 4).bind fun v_14 =>
    r_13.bind fun a_15 =>
    (g_stI z_12 .int a_15 v_14 i3).bind fun z_16 =>
    (g_fR z_16 a0 7 3).bind fun r_17 =>
    (g_fI z_16 a0 7 4).bind fun v_18 =>
    r_17.bind fun a_19 =>
    (g_stI z_16 .int a_19 v_18 i4).bind fun z_20 =>
    (g_fI z_20 a0 7 4).bind fun v_21 =>
    (g_pF z_20 a0 7 4 (.int (v_21 + 1))).bind fun z_22 =>
    some z_22)
    else (
    some z))
set_option maxHeartbeats 4000000 in
set_option maxRecDepth 100000 in
theorem mForms_add (l : Launch) (D : va_G) (A : Nat → Prop) (n : Nat) (z z' : gS) (a0 : Nat) (a1 : Nat) (i2 : Int32) (i3 : Int32) (i4 : Int32) (hf : fForms_add n a0 a1 i2 i3 i4 z = some z') : Met l yForms_add wsForms_add ({ frames := 0, cells := 0, slots := 0, locals := 0 }) (g_P D vwCl gNN gOO A z [.ref a0, .ref a1, .int i2, .int i3, .int i4]) (g_Qv D vwCl A z') 0 0 A := by
  refine Met.ofW (cc := cForms_add) (maxL := 5) (ret := none) (by decide) rfl ?_
  intro p e s m args below meth c s₁ B hml hv
  obtain ⟨rfl, hW, hK, hA0⟩ := hv
  have C : g_C p s m meth c _ cForms_add 5 none "SecretRows$Forms" gW D vwCl gNN gOO A := ⟨B.exec, B.bytes, B.returns, hml, findClass_of_methodNamed B.named, fun w hw => atoms_spec (ws := wsForms_add) B.pre w (List.mem_cons_of_mem _ hw), B.notSynchronized, hK, fun q hq => hA0 q (by rw [← hW.1]; exact hq)⟩
  have hS : va_S A s.heap s.heap [] := va_S.rf
  have hl := lv_entry ([.ref a0, .ref a1, .int i2, .int i3, .int i4]) (n := 5) (Nat.le_of_ble_eq_true rfl)
  rw [lg_entry_eq]
  generalize (lg_sl ([.ref a0, .ref a1, .int i2, .int i3, .int i4]) ++ List.replicate (5 - (lg_sl ([.ref a0, .ref a1, .int i2, .int i3, .int i4])).length) Slot.unset).toArray = ls at hl ⊢
  have hl : lv_has ls 5 [(0, .ref a0), (1, .ref a1), (2, .int i2), (3, .int i3), (4, .int i4)] := hl
  obtain ⟨hx, hb, hr, hml, hown, hts, hlocks, hK, hA⟩ := id C
  unfold fForms_add at hf
  refine lv_aload_n hx hb dForms_add_0 rfl (lv_at hl 0 rfl) ?_
  replace hf := g_bd hf
  obtain ⟨v_1, hv_1, hf⟩ := hf
  refine g_getI hx hb hts in_Forms hown hK hW (ci := 7) (C := "SecretRows$Forms") (T := T_Forms) (N := 5) rfl (k := 4) (by decide) (hts _ kw_69) (fun _ h9 => h9) hv_1 dForms_add_1 ?_
  refine lv_if_lt (tgt := 16) hx hb dForms_add_4 (by decide) (fun c_2 => ?_) (fun c_2 => ?_)
  · replace hf := g_it c_2 hf
    cases hf
    exact g_retv hx hb hr hlocks hW hS (Nat.le_of_ble_eq_true rfl) (Nat.le_of_ble_eq_true rfl) dForms_add_16
  · replace hf := g_if c_2 hf
    refine lv_aload_n hx hb dForms_add_7 rfl (lv_at hl 0 rfl) ?_
    replace hf := g_bd hf
    obtain ⟨v_3, hv_3, hf⟩ := hf
    refine g_getI hx hb hts in_Forms hown hK hW (ci := 7) (C := "SecretRows$Forms") (T := T_Forms) (N := 5) rfl (k := 4) (by decide) (hts _ kw_69) (fun _ h9 => h9) hv_3 dForms_add_8 ?_
    refine lv_bipush (v := 60) hx hb dForms_add_11 (by decide) ?_
    refine lv_icmp_lt (tgt := 17) hx hb dForms_add_13 (by decide) (fun c_4 => ?_) (fun c_4 => ?_)
    · replace hf := g_it c_4 hf
      refine lv_aload_n hx hb dForms_add_17 rfl (lv_at hl 0 rfl) ?_
      replace hf := g_bd hf
      obtain ⟨r_5, hr_5, hf⟩ := hf
      refine g_getR hx hb hts in_Forms hown hK hW (ci := 7) (C := "SecretRows$Forms") (T := T_Forms) (N := 5) rfl (k := 0) (by decide) (hts _ kw_65) (fun _ h9 => h9) hr_5 dForms_add_18 ?_
      refine lv_aload_n hx hb dForms_add_21 rfl (lv_at hl 0 rfl) ?_
      replace hf := g_bd hf
      obtain ⟨v_6, hv_6, hf⟩ := hf
      refine g_getI hx hb hts in_Forms hown hK hW (ci := 7) (C := "SecretRows$Forms") (T := T_Forms) (N := 5) rfl (k := 4) (by decide) (hts _ kw_69) (fun _ h9 => h9) hv_6 dForms_add_22 ?_
      refine lv_aload_n hx hb dForms_add_25 rfl (lv_at hl 1 rfl) ?_
      replace hf := g_bd hf
      obtain ⟨a_7, ea_7, hf⟩ := hf
      subst ea_7
      refine W.eq (g2 := F0 m 26 _ [.ref a1, .int v_6, .ref a_7]) rfl ?_
      replace hf := g_bd hf
      obtain ⟨_, hz_8i, hf⟩ := hf
      replace hf := g_bd hf
      obtain ⟨z_8, hz_8, hf⟩ := hf
      refine g_ast_r (r := ("SecretRows$Text", T_Text, 2)) (ci := 0) hx hb hK hW hS rfl hz_8i hz_8 dForms_add_26 (fun H locs hW hS => ?_)
      refine lv_aload_n hx hb dForms_add_27 rfl (lv_at hl 0 rfl) ?_
      replace hf := g_bd hf
      obtain ⟨r_9, hr_9, hf⟩ := hf
      refine g_getR hx hb hts in_Forms hown hK hW (ci := 7) (C := "SecretRows$Forms") (T := T_Forms) (N := 5) rfl (k := 1) (by decide) (hts _ kw_66) (fun _ h9 => h9) hr_9 dForms_add_28 ?_
      refine lv_aload_n hx hb dForms_add_31 rfl (lv_at hl 0 rfl) ?_
      replace hf := g_bd hf
      obtain ⟨v_10, hv_10, hf⟩ := hf
      refine g_getI hx hb hts in_Forms hown hK hW (ci := 7) (C := "SecretRows$Forms") (T := T_Forms) (N := 5) rfl (k := 4) (by decide) (hts _ kw_69) (fun _ h9 => h9) hv_10 dForms_add_32 ?_
      refine lv_iload_n hx hb dForms_add_35 rfl (lv_at hl 2 rfl) ?_
      replace hf := g_bd hf
      obtain ⟨a_11, ea_11, hf⟩ := hf
      subst ea_11
      refine W.eq (g2 := F0 m 36 _ [.int i2, .int v_10, .ref a_11]) rfl ?_
      replace hf := g_bd hf
      obtain ⟨z_12, hz_12, hf⟩ := hf
      refine g_ast_i hx hb hW hS hz_12 dForms_add_36 (fun H locs hW hS => ?_)
      refine lv_aload_n hx hb dForms_add_37 rfl (lv_at hl 0 rfl) ?_
      replace hf := g_bd hf
      obtain ⟨r_13, hr_13, hf⟩ := hf
      refine g_getR hx hb hts in_Forms hown hK hW (ci := 7) (C := "SecretRows$Forms") (T := T_Forms) (N := 5) rfl (k := 2) (by decide) (hts _ kw_67) (fun _ h9 => h9) hr_13 dForms_add_38 ?_
      refine lv_aload_n hx hb dForms_add_41 rfl (lv_at hl 0 rfl) ?_
      replace hf := g_bd hf
      obtain ⟨v_14, hv_14, hf⟩ := hf
      refine g_getI hx hb hts in_Forms hown hK hW (ci := 7) (C := "SecretRows$Forms") (T := T_Forms) (N := 5) rfl (k := 4) (by decide) (hts _ kw_69) (fun _ h9 => h9) hv_14 dForms_add_42 ?_
      refine lv_iload_n hx hb dForms_add_45 rfl (lv_at hl 3 rfl) ?_
      replace hf := g_bd hf
      obtain ⟨a_15, ea_15, hf⟩ := hf
      subst ea_15
      refine W.eq (g2 := F0 m 46 _ [.int i3, .int v_14, .ref a_15]) rfl ?_
      replace hf := g_bd hf
      obtain ⟨z_16, hz_16, hf⟩ := hf
      refine g_ast_i hx hb hW hS hz_16 dForms_add_46 (fun H locs hW hS => ?_)
      refine lv_aload_n hx hb dForms_add_47 rfl (lv_at hl 0 rfl) ?_
      replace hf := g_bd hf
      obtain ⟨r_17, hr_17, hf⟩ := hf
      refine g_getR hx hb hts in_Forms hown hK hW (ci := 7) (C := "SecretRows$Forms") (T := T_Forms) (N := 5) rfl (k := 3) (by decide) (hts _ kw_68) (fun _ h9 => h9) hr_17 dForms_add_48 ?_
      refine lv_aload_n hx hb dForms_add_51 rfl (lv_at hl 0 rfl) ?_
      replace hf := g_bd hf
      obtain ⟨v_18, hv_18, hf⟩ := hf
      refine g_getI hx hb hts in_Forms hown hK hW (ci := 7) (C := "SecretRows$Forms") (T := T_Forms) (N := 5) rfl (k := 4) (by decide) (hts _ kw_69) (fun _ h9 => h9) hv_18 dForms_add_52 ?_
      refine lv_iload hx hb dForms_add_55 (lv_at hl 4 rfl) ?_
      replace hf := g_bd hf
      obtain ⟨a_19, ea_19, hf⟩ := hf
      subst ea_19
      refine W.eq (g2 := F0 m 57 _ [.int i4, .int v_18, .ref a_19]) rfl ?_
      replace hf := g_bd hf
      obtain ⟨z_20, hz_20, hf⟩ := hf
      refine g_ast_i hx hb hW hS hz_20 dForms_add_57 (fun H locs hW hS => ?_)
      refine lv_aload_n hx hb dForms_add_58 rfl (lv_at hl 0 rfl) ?_
      refine lv_dup hx hb dForms_add_59 rfl ?_
      replace hf := g_bd hf
      obtain ⟨v_21, hv_21, hf⟩ := hf
      refine g_getI hx hb hts in_Forms hown hK hW (ci := 7) (C := "SecretRows$Forms") (T := T_Forms) (N := 5) rfl (k := 4) (by decide) (hts _ kw_69) (fun _ h9 => h9) hv_21 dForms_add_60 ?_
      refine lv_iconst (v := 1) hx hb dForms_add_63 (by decide) ?_
      refine lv_iadd hx hb dForms_add_64 ?_
      replace hf := g_bd hf
      obtain ⟨z_22, hz_22, hf⟩ := hf
      refine g_put hx hb hts in_Forms ty_Forms tyok_Forms nm_Forms hown hK hW hS (ci := 7) (C := "SecretRows$Forms") (T := T_Forms) (N := 5) rfl (k := 4) (by decide) (hts _ kw_69) (fun _ h9 => h9) rfl (ty := .int) (by decide +kernel) rfl rfl hz_22 dForms_add_65 (fun H locs hW hS => ?_)
      cases hf
      exact g_retv hx hb hr hlocks hW hS (Nat.le_of_ble_eq_true rfl) (Nat.le_of_ble_eq_true rfl) dForms_add_68
    · replace hf := g_if c_4 hf
      cases hf
      exact g_retv hx hb hr hlocks hW hS (Nat.le_of_ble_eq_true rfl) (Nat.le_of_ble_eq_true rfl) dForms_add_16

def fForms_addAll (n : Nat) (a0 : Nat) (i1 : Int32) (a2 : Nat) (i3 : Int32) (z : gS) : Option (gS) :=
    (g_fR z a2 1 1).bind fun r_1 =>
    r_1.bind fun a_2 =>
    (g_is z a0 7).bind fun _ =>
    (fForms_add n a0 a_2 i1 0 i3 z).bind fun z_4 =>
    (g_fR z_4 a2 1 2).bind fun r_5 =>
    r_5.bind fun a_6 =>
    (g_is z_4 a0 7).bind fun _ =>
    (fForms_add n a0 a_6 i1 1 i3 z_4).bind fun z_8 =>
    (g_fR z_8 a2 1 3).bind fun r_9 =>
    r_9.bind fun a_10 =>
    (g_is z_8 a0 7).bind fun _ =>
    (fForms_add n a0 a_10 i1 2 i3 z_8).bind fun z_12 =>
    some z_12
set_option maxHeartbeats 4000000 in
set_option maxRecDepth 100000 in
theorem mForms_addAll (l : Launch) (D : va_G) (A : Nat → Prop) (n : Nat) (z z' : gS) (a0 : Nat) (i1 : Int32) (a2 : Nat) (i3 : Int32) (hf : fForms_addAll n a0 i1 a2 i3 z = some z') : Met l yForms_addAll wsForms_addAll ({ frames := 1, cells := 0, slots := 0, locals := 24 }) (g_P D vwCl gNN gOO A z [.ref a0, .int i1, .ref a2, .int i3]) (g_Qv D vwCl A z') 0 0 A := by
  refine Met.ofW (cc := cForms_addAll) (maxL := 4) (ret := none) (by decide) rfl ?_
  intro p e s m args below meth c s₁ B hml hv
  obtain ⟨rfl, hW, hK, hA0⟩ := hv
  have C : g_C p s m meth c _ cForms_addAll 4 none "SecretRows$Forms" gW D vwCl gNN gOO A := ⟨B.exec, B.bytes, B.returns, hml, findClass_of_methodNamed B.named, fun w hw => atoms_spec (ws := wsForms_addAll) B.pre w (List.mem_cons_of_mem _ hw), B.notSynchronized, hK, fun q hq => hA0 q (by rw [← hW.1]; exact hq)⟩
  have hS : va_S A s.heap s.heap [] := va_S.rf
  have hl := lv_entry ([.ref a0, .int i1, .ref a2, .int i3]) (n := 4) (Nat.le_of_ble_eq_true rfl)
  rw [lg_entry_eq]
  generalize (lg_sl ([.ref a0, .int i1, .ref a2, .int i3]) ++ List.replicate (4 - (lg_sl ([.ref a0, .int i1, .ref a2, .int i3])).length) Slot.unset).toArray = ls at hl ⊢
  have hl : lv_has ls 4 [(0, .ref a0), (1, .int i1), (2, .ref a2), (3, .int i3)] := hl
  obtain ⟨hx, hb, hr, hml, hown, hts, hlocks, hK, hA⟩ := id C
  unfold fForms_addAll at hf
  refine lv_aload_n hx hb dForms_addAll_0 rfl (lv_at hl 0 rfl) ?_
  refine lv_aload_n hx hb dForms_addAll_1 rfl (lv_at hl 2 rfl) ?_
  replace hf := g_bd hf
  obtain ⟨r_1, hr_1, hf⟩ := hf
  refine g_getRN hx hb hts in_Value hown hK hW (ci := 1) (C := "SecretRows$Value") (T := T_Value) (N := 4) rfl (k := 1) (by decide) (host := "SecretRows") kw_242 (fun _ h9 => h9) hr_1 dForms_addAll_2 ?_
  refine lv_iload_n hx hb dForms_addAll_5 rfl (lv_at hl 1 rfl) ?_
  refine lv_iconst (v := 0) hx hb dForms_addAll_6 (by decide) ?_
  refine lv_iload_n hx hb dForms_addAll_7 rfl (lv_at hl 3 rfl) ?_
  replace hf := g_bd hf
  obtain ⟨a_2, ea_2, hf⟩ := hf
  subst ea_2
  refine W.eq (g2 := F0 m 8 _ [.int i3, .int 0, .int i1, .ref a_2, .ref a0]) rfl ?_
  replace hf := g_bd hf
  obtain ⟨_, hi_3, hf⟩ := hf
  replace hf := g_bd hf
  obtain ⟨z_4, hz_4, hf⟩ := hf
  refine g_gov (g_rV (As := [.ref a_2, .int i1, .int 0, .int i3]) (rest := []) ⟨hx, hb, hml, hown, hts⟩ (mForms_add l D A n _ _ a0 a_2 i1 0 i3 hz_4) (cwV 4 hts (gi_V kw_398 kw_400 ks_Forms_add kw_5 kw_401) rfl rfl rfl ⟨rfl, hdForms_add⟩ ⟨Nat.le_of_ble_eq_true rfl, Nat.le_of_ble_eq_true rfl⟩) hK hW hS hA (ci := 7) (T := T_Forms) (N := 5) rfl hi_3 rfl hl.1 rfl (Nat.le_of_ble_eq_true rfl) dForms_addAll_8 ⟨Nat.le_of_ble_eq_true rfl, Nat.le_of_ble_eq_true rfl⟩) hS (fun H locs hW hS => ?_)
  refine lv_aload_n hx hb dForms_addAll_11 rfl (lv_at hl 0 rfl) ?_
  refine lv_aload_n hx hb dForms_addAll_12 rfl (lv_at hl 2 rfl) ?_
  replace hf := g_bd hf
  obtain ⟨r_5, hr_5, hf⟩ := hf
  refine g_getRN hx hb hts in_Value hown hK hW (ci := 1) (C := "SecretRows$Value") (T := T_Value) (N := 4) rfl (k := 2) (by decide) (host := "SecretRows") kw_246 (fun _ h9 => h9) hr_5 dForms_addAll_13 ?_
  refine lv_iload_n hx hb dForms_addAll_16 rfl (lv_at hl 1 rfl) ?_
  refine lv_iconst (v := 1) hx hb dForms_addAll_17 (by decide) ?_
  refine lv_iload_n hx hb dForms_addAll_18 rfl (lv_at hl 3 rfl) ?_
  replace hf := g_bd hf
  obtain ⟨a_6, ea_6, hf⟩ := hf
  subst ea_6
  refine W.eq (g2 := F0 m 19 _ [.int i3, .int 1, .int i1, .ref a_6, .ref a0]) rfl ?_
  replace hf := g_bd hf
  obtain ⟨_, hi_7, hf⟩ := hf
  replace hf := g_bd hf
  obtain ⟨z_8, hz_8, hf⟩ := hf
  refine g_gov (g_rV (As := [.ref a_6, .int i1, .int 1, .int i3]) (rest := []) ⟨hx, hb, hml, hown, hts⟩ (mForms_add l D A n _ _ a0 a_6 i1 1 i3 hz_8) (cwV 4 hts (gi_V kw_398 kw_400 ks_Forms_add kw_5 kw_401) rfl rfl rfl ⟨rfl, hdForms_add⟩ ⟨Nat.le_of_ble_eq_true rfl, Nat.le_of_ble_eq_true rfl⟩) hK hW hS hA (ci := 7) (T := T_Forms) (N := 5) rfl hi_7 rfl hl.1 rfl (Nat.le_of_ble_eq_true rfl) dForms_addAll_19 ⟨Nat.le_of_ble_eq_true rfl, Nat.le_of_ble_eq_true rfl⟩) hS (fun H locs hW hS => ?_)
  refine lv_aload_n hx hb dForms_addAll_22 rfl (lv_at hl 0 rfl) ?_
  refine lv_aload_n hx hb dForms_addAll_23 rfl (lv_at hl 2 rfl) ?_
  replace hf := g_bd hf
  obtain ⟨r_9, hr_9, hf⟩ := hf
  refine g_getRN hx hb hts in_Value hown hK hW (ci := 1) (C := "SecretRows$Value") (T := T_Value) (N := 4) rfl (k := 3) (by decide) (host := "SecretRows") kw_248 (fun _ h9 => h9) hr_9 dForms_addAll_24 ?_
  refine lv_iload_n hx hb dForms_addAll_27 rfl (lv_at hl 1 rfl) ?_
  refine lv_iconst (v := 2) hx hb dForms_addAll_28 (by decide) ?_
  refine lv_iload_n hx hb dForms_addAll_29 rfl (lv_at hl 3 rfl) ?_
  replace hf := g_bd hf
  obtain ⟨a_10, ea_10, hf⟩ := hf
  subst ea_10
  refine W.eq (g2 := F0 m 30 _ [.int i3, .int 2, .int i1, .ref a_10, .ref a0]) rfl ?_
  replace hf := g_bd hf
  obtain ⟨_, hi_11, hf⟩ := hf
  replace hf := g_bd hf
  obtain ⟨z_12, hz_12, hf⟩ := hf
  refine g_gov (g_rV (As := [.ref a_10, .int i1, .int 2, .int i3]) (rest := []) ⟨hx, hb, hml, hown, hts⟩ (mForms_add l D A n _ _ a0 a_10 i1 2 i3 hz_12) (cwV 4 hts (gi_V kw_398 kw_400 ks_Forms_add kw_5 kw_401) rfl rfl rfl ⟨rfl, hdForms_add⟩ ⟨Nat.le_of_ble_eq_true rfl, Nat.le_of_ble_eq_true rfl⟩) hK hW hS hA (ci := 7) (T := T_Forms) (N := 5) rfl hi_11 rfl hl.1 rfl (Nat.le_of_ble_eq_true rfl) dForms_addAll_30 ⟨Nat.le_of_ble_eq_true rfl, Nat.le_of_ble_eq_true rfl⟩) hS (fun H locs hW hS => ?_)
  cases hf
  exact g_retv hx hb hr hlocks hW hS (Nat.le_of_ble_eq_true rfl) (Nat.le_of_ble_eq_true rfl) dForms_addAll_33

def fMain_gatherForms_J58 (n : Nat) (k9 : Nat → Int32 → gS → Option (gS)) (a0b : Nat) (i1b : Int32) (r2b : Option Nat) (z : gS) : Option (gS) :=
    g_n r2b (
    k9 a0b (i1b + 1) z) (fun a_22 =>
    (g_fR z a_22 2 3).bind fun r_23 =>
    g_n r_23 (
    k9 a0b (i1b + 1) z) (fun a_24 =>
    (g_fR z a0b 8 5).bind fun r_25 =>
    (g_fR z a_22 2 3).bind fun r_26 =>
    r_26.bind fun a_27 =>
    r_25.bind fun a_28 =>
    (g_is z a_28 7).bind fun _ =>
    (fForms_addAll n a_28 i1b a_27 0 z).bind fun z_30 =>
    k9 a0b (i1b + 1) z_30))
set_option maxHeartbeats 4000000 in
set_option maxRecDepth 100000 in
theorem bMain_gatherForms_58 {p : Program} {l : Launch} {e : Env} {s : State} {m : MethodId} {args : Array Value} {below : List Frame} {meth : Method} {c : Code} {D : va_G} {A : Nat → Prop} (C : g_C p s m meth c args cMain_gatherForms 3 none "SecretRows" gW D vwCl gNN gOO A) (n : Nat) {z' : gS}
    {k9 : Nat → Int32 → gS → Option (gS)} (hk9 : ∀ (a0b : Nat) (i1b : Int32) (z : gS) (H : Heap) (locs : List Loc) (ls : Array Slot), k9 a0b i1b z = some z' → g_W D vwCl A z s H → va_S A s.heap H locs → lv_has ls 3 [(0, .ref a0b), (1, .int i1b)] → W p l e (headSpec wsMain_gatherForms ({ frames := 2, cells := 0, slots := 0, locals := 47 })).room s m args below meth c H locs 0 0 (MQ below (g_Qv D vwCl A z') args s 0 0 A) (F0 m 9 ls [])) : ∀ (a0b : Nat) (i1b : Int32) (r2b : Option Nat) (z : gS) (H : Heap) (locs : List Loc) (ls : Array Slot), fMain_gatherForms_J58 n k9 a0b i1b r2b z = some z' → g_W D vwCl A z s H → va_S A s.heap H locs → lv_has ls 3 [(0, .ref a0b), (1, .int i1b), (2, va_rf r2b)] → W p l e (headSpec wsMain_gatherForms ({ frames := 2, cells := 0, slots := 0, locals := 47 })).room s m args below meth c H locs 0 0 (MQ below (g_Qv D vwCl A z') args s 0 0 A) (F0 m 58 ls []) := by
  obtain ⟨hx, hb, hr, hml, hown, hts, hlocks, hK, hA⟩ := id C
  intro a0b i1b r2b z H locs ls hf hW hS hl
  unfold fMain_gatherForms_J58 at hf
  refine g_aload_n hx hb dMain_gatherForms_58 rfl (lv_at hl 2 rfl) ?_
  cases r2b with
  | none =>
    replace hf := g_n0 hf
    replace hl : lv_has _ 3 [(0, .ref a0b), (1, .int i1b), (2, .null)] := hl
    refine W.eq (g2 := F0 m 59 _ [.null]) rfl ?_
    refine lv_ifnullN (tgt := 82) hx hb dMain_gatherForms_59 (by decide) ?_
    refine lv_iinc (v := (i1b + 1)) (lv' := [(1, .int (i1b + 1)), (0, .ref a0b), (2, .null)]) hx hb dMain_gatherForms_82 hl (k := 1) rfl rfl (by decide) rfl (fun _ hl1 => ?_)
    clear hl
    have hl := hl1
    clear hl1
    refine lv_goto (tgt := 9) hx hb dMain_gatherForms_85 (by decide) ?_
    exact hk9 a0b (i1b + 1) _ _ _ _ hf hW hS (lv_sub hl [1, 0] rfl)
  | some a_22 =>
    replace hf := g_n1 hf
    replace hl : lv_has _ 3 [(0, .ref a0b), (1, .int i1b), (2, .ref a_22)] := hl
    refine W.eq (g2 := F0 m 59 _ [.ref a_22]) rfl ?_
    refine lv_ifnull hx hb dMain_gatherForms_59 ?_
    refine lv_aload_n hx hb dMain_gatherForms_62 rfl (lv_at hl 2 rfl) ?_
    replace hf := g_bd hf
    obtain ⟨r_23, hr_23, hf⟩ := hf
    refine g_getRN hx hb hts in_Secret hown hK hW (ci := 2) (C := "SecretRows$Secret") (T := T_Secret) (N := 7) rfl (k := 3) (by decide) (host := "SecretRows") kw_137 (fun _ h9 => h9) hr_23 dMain_gatherForms_63 ?_
    cases r_23 with
    | none =>
      replace hf := g_n0 hf
      refine W.eq (g2 := F0 m 66 _ [.null]) rfl ?_
      refine lv_ifnullN (tgt := 82) hx hb dMain_gatherForms_66 (by decide) ?_
      refine lv_iinc (v := (i1b + 1)) (lv' := [(1, .int (i1b + 1)), (0, .ref a0b), (2, .ref a_22)]) hx hb dMain_gatherForms_82 hl (k := 1) rfl rfl (by decide) rfl (fun _ hl1 => ?_)
      clear hl
      have hl := hl1
      clear hl1
      refine lv_goto (tgt := 9) hx hb dMain_gatherForms_85 (by decide) ?_
      exact hk9 a0b (i1b + 1) _ _ _ _ hf hW hS (lv_sub hl [1, 0] rfl)
    | some a_24 =>
      replace hf := g_n1 hf
      refine W.eq (g2 := F0 m 66 _ [.ref a_24]) rfl ?_
      refine lv_ifnull hx hb dMain_gatherForms_66 ?_
      refine lv_aload_n hx hb dMain_gatherForms_69 rfl (lv_at hl 0 rfl) ?_
      replace hf := g_bd hf
      obtain ⟨r_25, hr_25, hf⟩ := hf
      refine g_getR hx hb hts in_Main hown hK hW (ci := 8) (C := "SecretRows") (T := T_Main) (N := 14) rfl (k := 5) (by decide) (hts _ kw_86) (fun _ h9 => h9) hr_25 dMain_gatherForms_70 ?_
      refine lv_iload_n hx hb dMain_gatherForms_73 rfl (lv_at hl 1 rfl) ?_
      refine lv_aload_n hx hb dMain_gatherForms_74 rfl (lv_at hl 2 rfl) ?_
      replace hf := g_bd hf
      obtain ⟨r_26, hr_26, hf⟩ := hf
      refine g_getRN hx hb hts in_Secret hown hK hW (ci := 2) (C := "SecretRows$Secret") (T := T_Secret) (N := 7) rfl (k := 3) (by decide) (host := "SecretRows") kw_137 (fun _ h9 => h9) hr_26 dMain_gatherForms_75 ?_
      refine lv_iconst (v := 0) hx hb dMain_gatherForms_78 (by decide) ?_
      replace hf := g_bd hf
      obtain ⟨a_27, ea_27, hf⟩ := hf
      subst ea_27
      refine W.eq (g2 := F0 m 79 _ [.int 0, .ref a_27, .int i1b, va_rf r_25]) rfl ?_
      replace hf := g_bd hf
      obtain ⟨a_28, ea_28, hf⟩ := hf
      subst ea_28
      refine W.eq (g2 := F0 m 79 _ [.int 0, .ref a_27, .int i1b, .ref a_28]) rfl ?_
      replace hf := g_bd hf
      obtain ⟨_, hi_29, hf⟩ := hf
      replace hf := g_bd hf
      obtain ⟨z_30, hz_30, hf⟩ := hf
      refine g_gov (g_rV (As := [.int i1b, .ref a_27, .int 0]) (rest := []) ⟨hx, hb, hml, hown, hts⟩ (mForms_addAll l D A n _ _ a_28 i1b a_27 0 hz_30) (cwV 3 hts (gi_V kw_394 kw_395 kw_396 kw_5 kw_397) rfl rfl rfl ⟨rfl, hdForms_addAll⟩ ⟨Nat.le_of_ble_eq_true rfl, Nat.le_of_ble_eq_true rfl⟩) hK hW hS hA (ci := 7) (T := T_Forms) (N := 5) rfl hi_29 rfl hl.1 rfl (Nat.le_of_ble_eq_true rfl) dMain_gatherForms_79 ⟨Nat.le_of_ble_eq_true rfl, Nat.le_of_ble_eq_true rfl⟩) hS (fun H locs hW hS => ?_)
      refine lv_iinc (v := (i1b + 1)) (lv' := [(1, .int (i1b + 1)), (0, .ref a0b), (2, .ref a_22)]) hx hb dMain_gatherForms_82 hl (k := 1) rfl rfl (by decide) rfl (fun _ hl1 => ?_)
      clear hl
      have hl := hl1
      clear hl1
      refine lv_goto (tgt := 9) hx hb dMain_gatherForms_85 (by decide) ?_
      exact hk9 a0b (i1b + 1) _ _ _ _ hf hW hS (lv_sub hl [1, 0] rfl)
def fMain_gatherForms_L9 (n : Nat) : Nat → Nat → Int32 → gS → Option (gS)
  | 0, _, _, _ => none
  | k + 1, a0b, i1b, z =>
    (g_fI z a0b 8 6).bind fun v_5 =>
    if v_5 ≤ i1b then (
    some z)
    else (
    (g_is z a0b 8).bind fun _ =>
    g_bp (fMain_findSecret n a0b i1b z) fun r_9 z_8 =>
    g_n r_9 (
    fMain_gatherForms_J58 n (fun a0b i1b z => fMain_gatherForms_L9 n k a0b i1b z) a0b i1b none z_8) (fun a_10 =>
    (g_fR z_8 a_10 2 4).bind fun r_11 =>
    g_n r_11 (
    fMain_gatherForms_J58 n (fun a0b i1b z => fMain_gatherForms_L9 n k a0b i1b z) a0b i1b (some a_10) z_8) (fun a_12 =>
    (g_fI z_8 a0b 8 10).bind fun v_13 =>
    (g_fI z_8 a_10 2 5).bind fun v_14 =>
    if v_14 ≤ v_13 then (
    fMain_gatherForms_J58 n (fun a0b i1b z => fMain_gatherForms_L9 n k a0b i1b z) a0b i1b (some a_10) z_8)
    else (
    (g_fR z_8 a0b 8 5).bind fun r_16 =>
    (g_fR z_8 a_10 2 4).bind fun r_17 =>
    r_17.bind fun a_18 =>
    r_16.bind fun a_19 =>
    (g_is z_8 a_19 7).bind fun _ =>
    (fForms_addAll n a_19 i1b a_18 1 z_8).bind fun z_21 =>
    fMain_gatherForms_J58 n (fun a0b i1b z => fMain_gatherForms_L9 n k a0b i1b z) a0b i1b (some a_10) z_21))))
set_option maxHeartbeats 4000000 in
set_option maxRecDepth 100000 in
theorem bMain_gatherForms_9 {p : Program} {l : Launch} {e : Env} {s : State} {m : MethodId} {args : Array Value} {below : List Frame} {meth : Method} {c : Code} {D : va_G} {A : Nat → Prop} (C : g_C p s m meth c args cMain_gatherForms 3 none "SecretRows" gW D vwCl gNN gOO A) (n : Nat) {z' : gS} : ∀ k : Nat, ∀ (a0b : Nat) (i1b : Int32) (z : gS) (H : Heap) (locs : List Loc) (ls : Array Slot), fMain_gatherForms_L9 n k a0b i1b z = some z' → g_W D vwCl A z s H → va_S A s.heap H locs → lv_has ls 3 [(0, .ref a0b), (1, .int i1b)] → W p l e (headSpec wsMain_gatherForms ({ frames := 2, cells := 0, slots := 0, locals := 47 })).room s m args below meth c H locs 0 0 (MQ below (g_Qv D vwCl A z') args s 0 0 A) (F0 m 9 ls []) := by
  obtain ⟨hx, hb, hr, hml, hown, hts, hlocks, hK, hA⟩ := id C
  intro k
  induction k with
  | zero =>
    intro a0b i1b z H locs ls hf
    have hf : (none : Option (gS)) = some _ := hf
    cases hf
  | succ k ih =>
    intro a0b i1b z H locs ls hf hW hS hl
    rw [fMain_gatherForms_L9] at hf
    refine lv_iload_n hx hb dMain_gatherForms_9 rfl (lv_at hl 1 rfl) ?_
    refine lv_aload_n hx hb dMain_gatherForms_10 rfl (lv_at hl 0 rfl) ?_
    replace hf := g_bd hf
    obtain ⟨v_5, hv_5, hf⟩ := hf
    refine g_getI hx hb hts in_Main hown hK hW (ci := 8) (C := "SecretRows") (T := T_Main) (N := 14) rfl (k := 6) (by decide) (hts _ kw_87) (fun _ h9 => h9) hv_5 dMain_gatherForms_11 ?_
    refine lv_icmp_ge (tgt := 88) hx hb dMain_gatherForms_14 (by decide) (fun c_6 => ?_) (fun c_6 => ?_)
    · replace hf := g_it c_6 hf
      cases hf
      exact g_retv hx hb hr hlocks hW hS (Nat.le_of_ble_eq_true rfl) (Nat.le_of_ble_eq_true rfl) dMain_gatherForms_88
    · replace hf := g_if c_6 hf
      refine lv_aload_n hx hb dMain_gatherForms_17 rfl (lv_at hl 0 rfl) ?_
      refine lv_iload_n hx hb dMain_gatherForms_18 rfl (lv_at hl 1 rfl) ?_
      replace hf := g_bd hf
      obtain ⟨_, hi_7, hf⟩ := hf
      replace hf := g_bps hf
      obtain ⟨r_9, z_8, hz_8, hf⟩ := hf
      refine g_goq (g_rV (As := [.int i1b]) (rest := []) ⟨hx, hb, hml, hown, hts⟩ (mMain_findSecret l D A n _ _ a0b i1b _ hz_8) (cwV 1 hts (gi_V kw_170 kw_172 ks_Main_findSecret kw_1 kw_173) rfl rfl rfl ⟨rfl, hdMain_findSecret⟩ ⟨Nat.le_of_ble_eq_true rfl, Nat.le_of_ble_eq_true rfl⟩) hK hW hS hA (ci := 8) (T := T_Main) (N := 14) rfl hi_7 rfl hl.1 rfl (Nat.le_of_ble_eq_true rfl) dMain_gatherForms_19 ⟨Nat.le_of_ble_eq_true rfl, Nat.le_of_ble_eq_true rfl⟩) hS (fun H locs hW hS => ?_)
      refine g_astore_n (lv' := [(2, va_rf r_9), (0, .ref a0b), (1, .int i1b)]) hx hb dMain_gatherForms_22 rfl hl (by decide) rfl (fun _ hl1 => ?_)
      clear hl
      have hl := hl1
      clear hl1
      refine g_aload_n hx hb dMain_gatherForms_23 rfl (lv_at hl 0 rfl) ?_
      cases r_9 with
      | none =>
        replace hf := g_n0 hf
        replace hl : lv_has _ 3 [(2, .null), (0, .ref a0b), (1, .int i1b)] := hl
        refine W.eq (g2 := F0 m 24 _ [.null]) rfl ?_
        refine lv_ifnullN (tgt := 58) hx hb dMain_gatherForms_24 (by decide) ?_
        exact bMain_gatherForms_58 C n (fun a0b i1b => ih a0b i1b) a0b i1b none _ _ _ _ hf hW hS (lv_sub hl [1, 2, 0] rfl)
      | some a_10 =>
        replace hf := g_n1 hf
        replace hl : lv_has _ 3 [(2, .ref a_10), (0, .ref a0b), (1, .int i1b)] := hl
        refine W.eq (g2 := F0 m 24 _ [.ref a_10]) rfl ?_
        refine lv_ifnull hx hb dMain_gatherForms_24 ?_
        refine lv_aload_n hx hb dMain_gatherForms_27 rfl (lv_at hl 0 rfl) ?_
        replace hf := g_bd hf
        obtain ⟨r_11, hr_11, hf⟩ := hf
        refine g_getRN hx hb hts in_Secret hown hK hW (ci := 2) (C := "SecretRows$Secret") (T := T_Secret) (N := 7) rfl (k := 4) (by decide) (host := "SecretRows") kw_139 (fun _ h9 => h9) hr_11 dMain_gatherForms_28 ?_
        cases r_11 with
        | none =>
          replace hf := g_n0 hf
          refine W.eq (g2 := F0 m 31 _ [.null]) rfl ?_
          refine lv_ifnullN (tgt := 58) hx hb dMain_gatherForms_31 (by decide) ?_
          exact bMain_gatherForms_58 C n (fun a0b i1b => ih a0b i1b) a0b i1b (some a_10) _ _ _ _ hf hW hS (lv_sub hl [1, 2, 0] rfl)
        | some a_12 =>
          replace hf := g_n1 hf
          refine W.eq (g2 := F0 m 31 _ [.ref a_12]) rfl ?_
          refine lv_ifnull hx hb dMain_gatherForms_31 ?_
          refine lv_aload_n hx hb dMain_gatherForms_34 rfl (lv_at hl 1 rfl) ?_
          replace hf := g_bd hf
          obtain ⟨v_13, hv_13, hf⟩ := hf
          refine g_getI hx hb hts in_Main hown hK hW (ci := 8) (C := "SecretRows") (T := T_Main) (N := 14) rfl (k := 10) (by decide) (hts _ kw_91) (fun _ h9 => h9) hv_13 dMain_gatherForms_35 ?_
          refine lv_aload_n hx hb dMain_gatherForms_38 rfl (lv_at hl 0 rfl) ?_
          replace hf := g_bd hf
          obtain ⟨v_14, hv_14, hf⟩ := hf
          refine g_getIN hx hb hts in_Secret hown hK hW (ci := 2) (C := "SecretRows$Secret") (T := T_Secret) (N := 7) rfl (k := 5) (by decide) (host := "SecretRows") kw_141 (fun _ h9 => h9) hv_14 dMain_gatherForms_39 ?_
          refine lv_icmp_ge (tgt := 58) hx hb dMain_gatherForms_42 (by decide) (fun c_15 => ?_) (fun c_15 => ?_)
          · replace hf := g_it c_15 hf
            exact bMain_gatherForms_58 C n (fun a0b i1b => ih a0b i1b) a0b i1b (some a_10) _ _ _ _ hf hW hS (lv_sub hl [1, 2, 0] rfl)
          · replace hf := g_if c_15 hf
            refine lv_aload_n hx hb dMain_gatherForms_45 rfl (lv_at hl 1 rfl) ?_
            replace hf := g_bd hf
            obtain ⟨r_16, hr_16, hf⟩ := hf
            refine g_getR hx hb hts in_Main hown hK hW (ci := 8) (C := "SecretRows") (T := T_Main) (N := 14) rfl (k := 5) (by decide) (hts _ kw_86) (fun _ h9 => h9) hr_16 dMain_gatherForms_46 ?_
            refine lv_iload_n hx hb dMain_gatherForms_49 rfl (lv_at hl 2 rfl) ?_
            refine lv_aload_n hx hb dMain_gatherForms_50 rfl (lv_at hl 0 rfl) ?_
            replace hf := g_bd hf
            obtain ⟨r_17, hr_17, hf⟩ := hf
            refine g_getRN hx hb hts in_Secret hown hK hW (ci := 2) (C := "SecretRows$Secret") (T := T_Secret) (N := 7) rfl (k := 4) (by decide) (host := "SecretRows") kw_139 (fun _ h9 => h9) hr_17 dMain_gatherForms_51 ?_
            refine lv_iconst (v := 1) hx hb dMain_gatherForms_54 (by decide) ?_
            replace hf := g_bd hf
            obtain ⟨a_18, ea_18, hf⟩ := hf
            subst ea_18
            refine W.eq (g2 := F0 m 55 _ [.int 1, .ref a_18, .int i1b, va_rf r_16]) rfl ?_
            replace hf := g_bd hf
            obtain ⟨a_19, ea_19, hf⟩ := hf
            subst ea_19
            refine W.eq (g2 := F0 m 55 _ [.int 1, .ref a_18, .int i1b, .ref a_19]) rfl ?_
            replace hf := g_bd hf
            obtain ⟨_, hi_20, hf⟩ := hf
            replace hf := g_bd hf
            obtain ⟨z_21, hz_21, hf⟩ := hf
            refine g_gov (g_rV (As := [.int i1b, .ref a_18, .int 1]) (rest := []) ⟨hx, hb, hml, hown, hts⟩ (mForms_addAll l D A n _ _ a_19 i1b a_18 1 hz_21) (cwV 3 hts (gi_V kw_394 kw_395 kw_396 kw_5 kw_397) rfl rfl rfl ⟨rfl, hdForms_addAll⟩ ⟨Nat.le_of_ble_eq_true rfl, Nat.le_of_ble_eq_true rfl⟩) hK hW hS hA (ci := 7) (T := T_Forms) (N := 5) rfl hi_20 rfl hl.1 rfl (Nat.le_of_ble_eq_true rfl) dMain_gatherForms_55 ⟨Nat.le_of_ble_eq_true rfl, Nat.le_of_ble_eq_true rfl⟩) hS (fun H locs hW hS => ?_)
            exact bMain_gatherForms_58 C n (fun a0b i1b => ih a0b i1b) a0b i1b (some a_10) _ _ _ _ hf hW hS (lv_sub hl [1, 2, 0] rfl)
def fMain_gatherForms (n : Nat) (a0 : Nat) (z : gS) : Option (gS) :=
    (g_fR z a0 8 5).bind fun r_1 =>
    r_1.bind fun a_2 =>
    (g_is z a_2 7).bind fun _ =>
    (fForms_clear n a_2 z).bind fun z_4 =>
    fMain_gatherForms_L9 n n a0 0 z_4
set_option maxHeartbeats 4000000 in
set_option maxRecDepth 100000 in
theorem mMain_gatherForms (l : Launch) (D : va_G) (A : Nat → Prop) (n : Nat) (z z' : gS) (a0 : Nat) (hf : fMain_gatherForms n a0 z = some z') : Met l yMain_gatherForms wsMain_gatherForms ({ frames := 2, cells := 0, slots := 0, locals := 47 }) (g_P D vwCl gNN gOO A z [.ref a0]) (g_Qv D vwCl A z') 0 0 A := by
  refine Met.ofW (cc := cMain_gatherForms) (maxL := 3) (ret := none) (by decide) rfl ?_
  intro p e s m args below meth c s₁ B hml hv
  obtain ⟨rfl, hW, hK, hA0⟩ := hv
  have C : g_C p s m meth c _ cMain_gatherForms 3 none "SecretRows" gW D vwCl gNN gOO A := ⟨B.exec, B.bytes, B.returns, hml, findClass_of_methodNamed B.named, fun w hw => atoms_spec (ws := wsMain_gatherForms) B.pre w (List.mem_cons_of_mem _ hw), B.notSynchronized, hK, fun q hq => hA0 q (by rw [← hW.1]; exact hq)⟩
  have hS : va_S A s.heap s.heap [] := va_S.rf
  have hl := lv_entry ([.ref a0]) (n := 3) (Nat.le_of_ble_eq_true rfl)
  rw [lg_entry_eq]
  generalize (lg_sl ([.ref a0]) ++ List.replicate (3 - (lg_sl ([.ref a0])).length) Slot.unset).toArray = ls at hl ⊢
  have hl : lv_has ls 3 [(0, .ref a0)] := hl
  obtain ⟨hx, hb, hr, hml, hown, hts, hlocks, hK, hA⟩ := id C
  unfold fMain_gatherForms at hf
  refine lv_aload_n hx hb dMain_gatherForms_0 rfl (lv_at hl 0 rfl) ?_
  replace hf := g_bd hf
  obtain ⟨r_1, hr_1, hf⟩ := hf
  refine g_getR hx hb hts in_Main hown hK hW (ci := 8) (C := "SecretRows") (T := T_Main) (N := 14) rfl (k := 5) (by decide) (hts _ kw_86) (fun _ h9 => h9) hr_1 dMain_gatherForms_1 ?_
  replace hf := g_bd hf
  obtain ⟨a_2, ea_2, hf⟩ := hf
  subst ea_2
  refine W.eq (g2 := F0 m 4 _ [.ref a_2]) rfl ?_
  replace hf := g_bd hf
  obtain ⟨_, hi_3, hf⟩ := hf
  replace hf := g_bd hf
  obtain ⟨z_4, hz_4, hf⟩ := hf
  refine g_gov (g_rV (As := []) (rest := []) ⟨hx, hb, hml, hown, hts⟩ (mForms_clear l D A n _ _ a_2 hz_4) (cwV 0 hts (gi_V kw_390 kw_391 kw_392 kw_5 kw_393) rfl rfl rfl ⟨rfl, hdForms_clear⟩ ⟨Nat.le_of_ble_eq_true rfl, Nat.le_of_ble_eq_true rfl⟩) hK hW hS hA (ci := 7) (T := T_Forms) (N := 5) rfl hi_3 rfl hl.1 rfl (Nat.le_of_ble_eq_true rfl) dMain_gatherForms_4 ⟨Nat.le_of_ble_eq_true rfl, Nat.le_of_ble_eq_true rfl⟩) hS (fun H locs hW hS => ?_)
  refine lv_iconst (v := 0) hx hb dMain_gatherForms_7 (by decide) ?_
  refine lv_istore_n (lv' := [(1, .int 0), (0, .ref a0)]) hx hb dMain_gatherForms_8 rfl hl (by decide) rfl (fun _ hl1 => ?_)
  clear hl
  have hl := hl1
  clear hl1
  exact bMain_gatherForms_9 C n n a0 0 _ _ _ _ hf hW hS (lv_sub hl [1, 0] rfl)

def fForms_isThere (n : Nat) (a0 : Nat) (i1 : Int32) (z : gS) : Option (Int32 × gS) :=
    if i1 < 0 then (
    some (0, z))
    else (
    (g_fI z a0 7 4).bind fun v_2 =>
    if v_2 ≤ i1 then (
    some (0, z))
    else (
    if 60 ≤ i1 then (
    some (0, z))
    else (
    some (1, z))))
set_option maxHeartbeats 4000000 in
set_option maxRecDepth 100000 in
theorem mForms_isThere (l : Launch) (D : va_G) (A : Nat → Prop) (n : Nat) (z z' : gS) (a0 : Nat) (i1 : Int32) (r : Int32) (hf : fForms_isThere n a0 i1 z = some (r, z')) : Met l yForms_isThere wsForms_isThere ({ frames := 0, cells := 0, slots := 0, locals := 0 }) (g_P D vwCl gNN gOO A z [.ref a0, .int i1]) (g_Qi D vwCl A r z') 0 0 A := by
  refine Met.ofW (cc := cForms_isThere) (maxL := 2) (ret := (some .boolean)) (by decide) rfl ?_
  intro p e s m args below meth c s₁ B hml hv
  obtain ⟨rfl, hW, hK, hA0⟩ := hv
  have C : g_C p s m meth c _ cForms_isThere 2 (some .boolean) "SecretRows$Forms" gW D vwCl gNN gOO A := ⟨B.exec, B.bytes, B.returns, hml, findClass_of_methodNamed B.named, fun w hw => atoms_spec (ws := wsForms_isThere) B.pre w (List.mem_cons_of_mem _ hw), B.notSynchronized, hK, fun q hq => hA0 q (by rw [← hW.1]; exact hq)⟩
  have hS : va_S A s.heap s.heap [] := va_S.rf
  have hl := lv_entry ([.ref a0, .int i1]) (n := 2) (Nat.le_of_ble_eq_true rfl)
  rw [lg_entry_eq]
  generalize (lg_sl ([.ref a0, .int i1]) ++ List.replicate (2 - (lg_sl ([.ref a0, .int i1])).length) Slot.unset).toArray = ls at hl ⊢
  have hl : lv_has ls 2 [(0, .ref a0), (1, .int i1)] := hl
  obtain ⟨hx, hb, hr, hml, hown, hts, hlocks, hK, hA⟩ := id C
  unfold fForms_isThere at hf
  refine lv_iload_n hx hb dForms_isThere_0 rfl (lv_at hl 1 rfl) ?_
  refine lv_if_lt (tgt := 22) hx hb dForms_isThere_1 (by decide) (fun c_1 => ?_) (fun c_1 => ?_)
  · replace hf := g_it c_1 hf
    refine lv_iconst (v := 0) hx hb dForms_isThere_22 (by decide) ?_
    cases hf
    exact g_retz hx hb hr rfl hlocks hW hS (Nat.le_of_ble_eq_true rfl) (Nat.le_of_ble_eq_true rfl) dForms_isThere_23
  · replace hf := g_if c_1 hf
    refine lv_iload_n hx hb dForms_isThere_4 rfl (lv_at hl 1 rfl) ?_
    refine lv_aload_n hx hb dForms_isThere_5 rfl (lv_at hl 0 rfl) ?_
    replace hf := g_bd hf
    obtain ⟨v_2, hv_2, hf⟩ := hf
    refine g_getI hx hb hts in_Forms hown hK hW (ci := 7) (C := "SecretRows$Forms") (T := T_Forms) (N := 5) rfl (k := 4) (by decide) (hts _ kw_69) (fun _ h9 => h9) hv_2 dForms_isThere_6 ?_
    refine lv_icmp_ge (tgt := 22) hx hb dForms_isThere_9 (by decide) (fun c_3 => ?_) (fun c_3 => ?_)
    · replace hf := g_it c_3 hf
      refine lv_iconst (v := 0) hx hb dForms_isThere_22 (by decide) ?_
      cases hf
      exact g_retz hx hb hr rfl hlocks hW hS (Nat.le_of_ble_eq_true rfl) (Nat.le_of_ble_eq_true rfl) dForms_isThere_23
    · replace hf := g_if c_3 hf
      refine lv_iload_n hx hb dForms_isThere_12 rfl (lv_at hl 1 rfl) ?_
      refine lv_bipush (v := 60) hx hb dForms_isThere_13 (by decide) ?_
      refine lv_icmp_ge (tgt := 22) hx hb dForms_isThere_15 (by decide) (fun c_4 => ?_) (fun c_4 => ?_)
      · replace hf := g_it c_4 hf
        refine lv_iconst (v := 0) hx hb dForms_isThere_22 (by decide) ?_
        cases hf
        exact g_retz hx hb hr rfl hlocks hW hS (Nat.le_of_ble_eq_true rfl) (Nat.le_of_ble_eq_true rfl) dForms_isThere_23
      · replace hf := g_if c_4 hf
        refine lv_iconst (v := 1) hx hb dForms_isThere_18 (by decide) ?_
        refine lv_goto (tgt := 23) hx hb dForms_isThere_19 (by decide) ?_
        cases hf
        exact g_retz hx hb hr rfl hlocks hW hS (Nat.le_of_ble_eq_true rfl) (Nat.le_of_ble_eq_true rfl) dForms_isThere_23
