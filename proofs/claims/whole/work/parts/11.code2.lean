theorem dMain_revoke_0 : decode cMain_revoke 0 = .ok (.aload_n 0, 1) := by decide +kernel
theorem dMain_revoke_1 : decode cMain_revoke 1 = .ok (.iload_n 1, 1) := by decide +kernel
theorem dMain_revoke_2 : decode cMain_revoke 2 = .ok (.invokevirtual 70, 3) := by decide +kernel
theorem dMain_revoke_5 : decode cMain_revoke 5 = .ok (.astore_n 2, 1) := by decide +kernel
theorem dMain_revoke_6 : decode cMain_revoke 6 = .ok (.aload_n 2, 1) := by decide +kernel
theorem dMain_revoke_7 : decode cMain_revoke 7 = .ok (.ifnull 10, 3) := by decide +kernel
theorem dMain_revoke_10 : decode cMain_revoke 10 = .ok (.aload_n 2, 1) := by decide +kernel
theorem dMain_revoke_11 : decode cMain_revoke 11 = .ok (.getfield 81, 3) := by decide +kernel
theorem dMain_revoke_14 : decode cMain_revoke 14 = .ok (.ifCond .eq 5, 3) := by decide +kernel
theorem dMain_revoke_17 : decode cMain_revoke 17 = .ok (.iconst 0, 1) := by decide +kernel
theorem dMain_revoke_18 : decode cMain_revoke 18 = .ok (.ireturn, 1) := by decide +kernel
theorem dMain_revoke_19 : decode cMain_revoke 19 = .ok (.aload_n 2, 1) := by decide +kernel
theorem dMain_revoke_20 : decode cMain_revoke 20 = .ok (.iconst 1, 1) := by decide +kernel
theorem dMain_revoke_21 : decode cMain_revoke 21 = .ok (.putfield 81, 3) := by decide +kernel
theorem dMain_revoke_24 : decode cMain_revoke 24 = .ok (.iconst 1, 1) := by decide +kernel
theorem dMain_revoke_25 : decode cMain_revoke 25 = .ok (.ireturn, 1) := by decide +kernel
theorem dMain_tick_0 : decode cMain_tick 0 = .ok (.iload_n 1, 1) := by decide +kernel
theorem dMain_tick_1 : decode cMain_tick 1 = .ok (.ifCond .lt 20, 3) := by decide +kernel
theorem dMain_tick_4 : decode cMain_tick 4 = .ok (.iload_n 1, 1) := by decide +kernel
theorem dMain_tick_5 : decode cMain_tick 5 = .ok (.ldc 85, 2) := by decide +kernel
theorem dMain_tick_7 : decode cMain_tick 7 = .ok (.if_icmp .gt 14, 3) := by decide +kernel
theorem dMain_tick_10 : decode cMain_tick 10 = .ok (.aload_n 0, 1) := by decide +kernel
theorem dMain_tick_11 : decode cMain_tick 11 = .ok (.getfield 86, 3) := by decide +kernel
theorem dMain_tick_14 : decode cMain_tick 14 = .ok (.ldc 89, 2) := by decide +kernel
theorem dMain_tick_16 : decode cMain_tick 16 = .ok (.iload_n 1, 1) := by decide +kernel
theorem dMain_tick_17 : decode cMain_tick 17 = .ok (.isub, 1) := by decide +kernel
theorem dMain_tick_18 : decode cMain_tick 18 = .ok (.if_icmp .le 5, 3) := by decide +kernel
theorem dMain_tick_21 : decode cMain_tick 21 = .ok (.iconst (-1), 1) := by decide +kernel
theorem dMain_tick_22 : decode cMain_tick 22 = .ok (.ireturn, 1) := by decide +kernel
theorem dMain_tick_23 : decode cMain_tick 23 = .ok (.aload_n 0, 1) := by decide +kernel
theorem dMain_tick_24 : decode cMain_tick 24 = .ok (.dup, 1) := by decide +kernel
theorem dMain_tick_25 : decode cMain_tick 25 = .ok (.getfield 86, 3) := by decide +kernel
theorem dMain_tick_28 : decode cMain_tick 28 = .ok (.iload_n 1, 1) := by decide +kernel
theorem dMain_tick_29 : decode cMain_tick 29 = .ok (.iadd, 1) := by decide +kernel
theorem dMain_tick_30 : decode cMain_tick 30 = .ok (.putfield 86, 3) := by decide +kernel
theorem dMain_tick_33 : decode cMain_tick 33 = .ok (.aload_n 0, 1) := by decide +kernel
theorem dMain_tick_34 : decode cMain_tick 34 = .ok (.getfield 86, 3) := by decide +kernel
theorem dMain_tick_37 : decode cMain_tick 37 = .ok (.ireturn, 1) := by decide +kernel
theorem dMain_isBit_0 : decode cMain_isBit 0 = .ok (.iload_n 0, 1) := by decide +kernel
theorem dMain_isBit_1 : decode cMain_isBit 1 = .ok (.ifCond .lt 13, 3) := by decide +kernel
theorem dMain_isBit_4 : decode cMain_isBit 4 = .ok (.iload_n 0, 1) := by decide +kernel
theorem dMain_isBit_5 : decode cMain_isBit 5 = .ok (.bipush 7, 2) := by decide +kernel
theorem dMain_isBit_7 : decode cMain_isBit 7 = .ok (.if_icmp .gt 7, 3) := by decide +kernel
theorem dMain_isBit_10 : decode cMain_isBit 10 = .ok (.iconst 1, 1) := by decide +kernel
theorem dMain_isBit_11 : decode cMain_isBit 11 = .ok (.goto 4, 3) := by decide +kernel
theorem dMain_isBit_14 : decode cMain_isBit 14 = .ok (.iconst 0, 1) := by decide +kernel
theorem dMain_isBit_15 : decode cMain_isBit 15 = .ok (.ireturn, 1) := by decide +kernel
theorem dLog_init_0 : decode cLog_init 0 = .ok (.aload_n 0, 1) := by decide +kernel
theorem dLog_init_1 : decode cLog_init 1 = .ok (.invokespecial 3, 3) := by decide +kernel
theorem dLog_init_4 : decode cLog_init 4 = .ok (.aload_n 0, 1) := by decide +kernel
theorem dLog_init_5 : decode cLog_init 5 = .ok (.new 9, 3) := by decide +kernel
theorem dLog_init_8 : decode cLog_init 8 = .ok (.dup, 1) := by decide +kernel
theorem dLog_init_9 : decode cLog_init 9 = .ok (.sipush 300, 3) := by decide +kernel
theorem dLog_init_12 : decode cLog_init 12 = .ok (.invokespecial 11, 3) := by decide +kernel
theorem dLog_init_15 : decode cLog_init 15 = .ok (.putfield 14, 3) := by decide +kernel
theorem dLog_init_18 : decode cLog_init 18 = .ok (.aload_n 0, 1) := by decide +kernel
theorem dLog_init_19 : decode cLog_init 19 = .ok (.new 9, 3) := by decide +kernel
theorem dLog_init_22 : decode cLog_init 22 = .ok (.dup, 1) := by decide +kernel
theorem dLog_init_23 : decode cLog_init 23 = .ok (.sipush 300, 3) := by decide +kernel
theorem dLog_init_26 : decode cLog_init 26 = .ok (.invokespecial 11, 3) := by decide +kernel
theorem dLog_init_29 : decode cLog_init 29 = .ok (.putfield 20, 3) := by decide +kernel
theorem dLog_init_32 : decode cLog_init 32 = .ok (.return_, 1) := by decide +kernel
theorem dStep_init_0 : decode cStep_init 0 = .ok (.aload_n 0, 1) := by decide +kernel
theorem dStep_init_1 : decode cStep_init 1 = .ok (.invokespecial 3, 3) := by decide +kernel
theorem dStep_init_4 : decode cStep_init 4 = .ok (.aload_n 0, 1) := by decide +kernel
theorem dStep_init_5 : decode cStep_init 5 = .ok (.bipush 10, 2) := by decide +kernel
theorem dStep_init_7 : decode cStep_init 7 = .ok (.anewarray 9, 3) := by decide +kernel
theorem dStep_init_10 : decode cStep_init 10 = .ok (.putfield 11, 3) := by decide +kernel
theorem dStep_init_13 : decode cStep_init 13 = .ok (.aload_n 0, 1) := by decide +kernel
theorem dStep_init_14 : decode cStep_init 14 = .ok (.new 17, 3) := by decide +kernel
theorem dStep_init_17 : decode cStep_init 17 = .ok (.dup, 1) := by decide +kernel
theorem dStep_init_18 : decode cStep_init 18 = .ok (.invokespecial 19, 3) := by decide +kernel
theorem dStep_init_21 : decode cStep_init 21 = .ok (.putfield 20, 3) := by decide +kernel
theorem dStep_init_24 : decode cStep_init 24 = .ok (.return_, 1) := by decide +kernel
theorem dSecret_isFor_0 : decode cSecret_isFor 0 = .ok (.aload_n 0, 1) := by decide +kernel
theorem dSecret_isFor_1 : decode cSecret_isFor 1 = .ok (.getfield 7, 3) := by decide +kernel
theorem dSecret_isFor_4 : decode cSecret_isFor 4 = .ok (.iload_n 1, 1) := by decide +kernel
theorem dSecret_isFor_5 : decode cSecret_isFor 5 = .ok (.ishr, 1) := by decide +kernel
theorem dSecret_isFor_6 : decode cSecret_isFor 6 = .ok (.aload_n 0, 1) := by decide +kernel
theorem dSecret_isFor_7 : decode cSecret_isFor 7 = .ok (.getfield 13, 3) := by decide +kernel
theorem dSecret_isFor_10 : decode cSecret_isFor 10 = .ok (.iload_n 2, 1) := by decide +kernel
theorem dSecret_isFor_11 : decode cSecret_isFor 11 = .ok (.ishr, 1) := by decide +kernel
theorem dSecret_isFor_12 : decode cSecret_isFor 12 = .ok (.iand, 1) := by decide +kernel
theorem dSecret_isFor_13 : decode cSecret_isFor 13 = .ok (.aload_n 0, 1) := by decide +kernel
theorem dSecret_isFor_14 : decode cSecret_isFor 14 = .ok (.getfield 16, 3) := by decide +kernel
theorem dSecret_isFor_17 : decode cSecret_isFor 17 = .ok (.iload_n 3, 1) := by decide +kernel
theorem dSecret_isFor_18 : decode cSecret_isFor 18 = .ok (.ishr, 1) := by decide +kernel
theorem dSecret_isFor_19 : decode cSecret_isFor 19 = .ok (.iand, 1) := by decide +kernel
theorem dSecret_isFor_20 : decode cSecret_isFor 20 = .ok (.iconst 1, 1) := by decide +kernel
theorem dSecret_isFor_21 : decode cSecret_isFor 21 = .ok (.iand, 1) := by decide +kernel
theorem dSecret_isFor_22 : decode cSecret_isFor 22 = .ok (.iconst 1, 1) := by decide +kernel
theorem dSecret_isFor_23 : decode cSecret_isFor 23 = .ok (.if_icmp .ne 7, 3) := by decide +kernel
theorem dSecret_isFor_26 : decode cSecret_isFor 26 = .ok (.iconst 1, 1) := by decide +kernel
theorem dSecret_isFor_27 : decode cSecret_isFor 27 = .ok (.goto 4, 3) := by decide +kernel
theorem dSecret_isFor_30 : decode cSecret_isFor 30 = .ok (.iconst 0, 1) := by decide +kernel
theorem dSecret_isFor_31 : decode cSecret_isFor 31 = .ok (.ireturn, 1) := by decide +kernel
theorem dStep_keep_0 : decode cStep_keep 0 = .ok (.iload_n 1, 1) := by decide +kernel
theorem dStep_keep_1 : decode cStep_keep 1 = .ok (.ifCond .lt 19, 3) := by decide +kernel
theorem dStep_keep_4 : decode cStep_keep 4 = .ok (.iload_n 1, 1) := by decide +kernel
theorem dStep_keep_5 : decode cStep_keep 5 = .ok (.aload_n 0, 1) := by decide +kernel
theorem dStep_keep_6 : decode cStep_keep 6 = .ok (.getfield 11, 3) := by decide +kernel
theorem dStep_keep_9 : decode cStep_keep 9 = .ok (.arraylength, 1) := by decide +kernel
theorem dStep_keep_10 : decode cStep_keep 10 = .ok (.if_icmp .ge 10, 3) := by decide +kernel
theorem dStep_keep_13 : decode cStep_keep 13 = .ok (.aload_n 0, 1) := by decide +kernel
theorem dStep_keep_14 : decode cStep_keep 14 = .ok (.getfield 11, 3) := by decide +kernel
theorem dStep_keep_17 : decode cStep_keep 17 = .ok (.iload_n 1, 1) := by decide +kernel
theorem dStep_keep_18 : decode cStep_keep 18 = .ok (.aload_n 2, 1) := by decide +kernel
theorem dStep_keep_19 : decode cStep_keep 19 = .ok (.aastore, 1) := by decide +kernel
theorem dStep_keep_20 : decode cStep_keep 20 = .ok (.return_, 1) := by decide +kernel
theorem dMain_keepSeen_0 : decode cMain_keepSeen 0 = .ok (.iconst 0, 1) := by decide +kernel
theorem dMain_keepSeen_1 : decode cMain_keepSeen 1 = .ok (.istore 5, 2) := by decide +kernel
theorem dMain_keepSeen_3 : decode cMain_keepSeen 3 = .ok (.iload 5, 2) := by decide +kernel
theorem dMain_keepSeen_5 : decode cMain_keepSeen 5 = .ok (.aload_n 0, 1) := by decide +kernel
theorem dMain_keepSeen_6 : decode cMain_keepSeen 6 = .ok (.getfield 60, 3) := by decide +kernel
theorem dMain_keepSeen_9 : decode cMain_keepSeen 9 = .ok (.if_icmp .ge 53, 3) := by decide +kernel
theorem dMain_keepSeen_12 : decode cMain_keepSeen 12 = .ok (.aload_n 0, 1) := by decide +kernel
theorem dMain_keepSeen_13 : decode cMain_keepSeen 13 = .ok (.iload 5, 2) := by decide +kernel
theorem dMain_keepSeen_15 : decode cMain_keepSeen 15 = .ok (.invokevirtual 70, 3) := by decide +kernel
theorem dMain_keepSeen_18 : decode cMain_keepSeen 18 = .ok (.astore 6, 2) := by decide +kernel
theorem dMain_keepSeen_20 : decode cMain_keepSeen 20 = .ok (.aload 6, 2) := by decide +kernel
theorem dMain_keepSeen_22 : decode cMain_keepSeen 22 = .ok (.ifnull 34, 3) := by decide +kernel
theorem dMain_keepSeen_25 : decode cMain_keepSeen 25 = .ok (.aload 6, 2) := by decide +kernel
theorem dMain_keepSeen_27 : decode cMain_keepSeen 27 = .ok (.getfield 81, 3) := by decide +kernel
theorem dMain_keepSeen_30 : decode cMain_keepSeen 30 = .ok (.ifCond .ne 26, 3) := by decide +kernel
theorem dMain_keepSeen_33 : decode cMain_keepSeen 33 = .ok (.aload 6, 2) := by decide +kernel
theorem dMain_keepSeen_35 : decode cMain_keepSeen 35 = .ok (.iload_n 2, 1) := by decide +kernel
theorem dMain_keepSeen_36 : decode cMain_keepSeen 36 = .ok (.iload_n 3, 1) := by decide +kernel
theorem dMain_keepSeen_37 : decode cMain_keepSeen 37 = .ok (.iload 4, 2) := by decide +kernel
theorem dMain_keepSeen_39 : decode cMain_keepSeen 39 = .ok (.invokevirtual 222, 3) := by decide +kernel
theorem dMain_keepSeen_42 : decode cMain_keepSeen 42 = .ok (.ifCond .eq 14, 3) := by decide +kernel
theorem dMain_keepSeen_45 : decode cMain_keepSeen 45 = .ok (.aload_n 1, 1) := by decide +kernel
theorem dMain_keepSeen_46 : decode cMain_keepSeen 46 = .ok (.iload 5, 2) := by decide +kernel
theorem dMain_keepSeen_48 : decode cMain_keepSeen 48 = .ok (.aload 6, 2) := by decide +kernel
theorem dMain_keepSeen_50 : decode cMain_keepSeen 50 = .ok (.getfield 226, 3) := by decide +kernel
theorem dMain_keepSeen_53 : decode cMain_keepSeen 53 = .ok (.invokevirtual 227, 3) := by decide +kernel
theorem dMain_keepSeen_56 : decode cMain_keepSeen 56 = .ok (.iinc 5 1, 3) := by decide +kernel
theorem dMain_keepSeen_59 : decode cMain_keepSeen 59 = .ok (.goto (-56), 3) := by decide +kernel
theorem dMain_keepSeen_62 : decode cMain_keepSeen 62 = .ok (.return_, 1) := by decide +kernel
theorem dMain_step_0 : decode cMain_step 0 = .ok (.iload_n 1, 1) := by decide +kernel
theorem dMain_step_1 : decode cMain_step 1 = .ok (.invokestatic 90, 3) := by decide +kernel
theorem dMain_step_4 : decode cMain_step 4 = .ok (.ifCond .eq 29, 3) := by decide +kernel
theorem dMain_step_7 : decode cMain_step 7 = .ok (.iload_n 2, 1) := by decide +kernel
theorem dMain_step_8 : decode cMain_step 8 = .ok (.invokestatic 90, 3) := by decide +kernel
theorem dMain_step_11 : decode cMain_step 11 = .ok (.ifCond .eq 22, 3) := by decide +kernel
theorem dMain_step_14 : decode cMain_step 14 = .ok (.iload_n 3, 1) := by decide +kernel
theorem dMain_step_15 : decode cMain_step 15 = .ok (.invokestatic 90, 3) := by decide +kernel
theorem dMain_step_18 : decode cMain_step 18 = .ok (.ifCond .eq 15, 3) := by decide +kernel
theorem dMain_step_21 : decode cMain_step 21 = .ok (.aload_n 0, 1) := by decide +kernel
theorem dMain_step_22 : decode cMain_step 22 = .ok (.getfield 93, 3) := by decide +kernel
theorem dMain_step_25 : decode cMain_step 25 = .ok (.aload_n 0, 1) := by decide +kernel
theorem dMain_step_26 : decode cMain_step 26 = .ok (.getfield 17, 3) := by decide +kernel
theorem dMain_step_29 : decode cMain_step 29 = .ok (.arraylength, 1) := by decide +kernel
theorem dMain_step_30 : decode cMain_step 30 = .ok (.if_icmp .lt 5, 3) := by decide +kernel
theorem dMain_step_33 : decode cMain_step 33 = .ok (.iconst (-1), 1) := by decide +kernel
theorem dMain_step_34 : decode cMain_step 34 = .ok (.ireturn, 1) := by decide +kernel
theorem dMain_step_35 : decode cMain_step 35 = .ok (.new 15, 3) := by decide +kernel
theorem dMain_step_38 : decode cMain_step 38 = .ok (.dup, 1) := by decide +kernel
theorem dMain_step_39 : decode cMain_step 39 = .ok (.invokespecial 96, 3) := by decide +kernel
theorem dMain_step_42 : decode cMain_step 42 = .ok (.astore 5, 2) := by decide +kernel
theorem dMain_step_44 : decode cMain_step 44 = .ok (.iload 4, 2) := by decide +kernel
theorem dMain_step_46 : decode cMain_step 46 = .ok (.ifCond .ne 12, 3) := by decide +kernel
theorem dMain_step_49 : decode cMain_step 49 = .ok (.aload_n 0, 1) := by decide +kernel
theorem dMain_step_50 : decode cMain_step 50 = .ok (.aload 5, 2) := by decide +kernel
theorem dMain_step_52 : decode cMain_step 52 = .ok (.iload_n 1, 1) := by decide +kernel
theorem dMain_step_53 : decode cMain_step 53 = .ok (.iload_n 2, 1) := by decide +kernel
theorem dMain_step_54 : decode cMain_step 54 = .ok (.iload_n 3, 1) := by decide +kernel
theorem dMain_step_55 : decode cMain_step 55 = .ok (.invokevirtual 97, 3) := by decide +kernel
theorem dMain_step_58 : decode cMain_step 58 = .ok (.aload_n 0, 1) := by decide +kernel
theorem dMain_step_59 : decode cMain_step 59 = .ok (.getfield 17, 3) := by decide +kernel
theorem dMain_step_62 : decode cMain_step 62 = .ok (.aload_n 0, 1) := by decide +kernel
theorem dMain_step_63 : decode cMain_step 63 = .ok (.getfield 93, 3) := by decide +kernel
theorem dMain_step_66 : decode cMain_step 66 = .ok (.aload 5, 2) := by decide +kernel
theorem dMain_step_68 : decode cMain_step 68 = .ok (.aastore, 1) := by decide +kernel
theorem dMain_step_69 : decode cMain_step 69 = .ok (.aload_n 0, 1) := by decide +kernel
theorem dMain_step_70 : decode cMain_step 70 = .ok (.dup, 1) := by decide +kernel
theorem dMain_step_71 : decode cMain_step 71 = .ok (.getfield 93, 3) := by decide +kernel
theorem dMain_step_74 : decode cMain_step 74 = .ok (.iconst 1, 1) := by decide +kernel
theorem dMain_step_75 : decode cMain_step 75 = .ok (.iadd, 1) := by decide +kernel
theorem dMain_step_76 : decode cMain_step 76 = .ok (.putfield 93, 3) := by decide +kernel
theorem dMain_step_79 : decode cMain_step 79 = .ok (.aload_n 0, 1) := by decide +kernel
theorem dMain_step_80 : decode cMain_step 80 = .ok (.getfield 93, 3) := by decide +kernel
theorem dMain_step_83 : decode cMain_step 83 = .ok (.iconst 1, 1) := by decide +kernel
theorem dMain_step_84 : decode cMain_step 84 = .ok (.isub, 1) := by decide +kernel
theorem dMain_step_85 : decode cMain_step 85 = .ok (.ireturn, 1) := by decide +kernel
theorem dMain_findStep_0 : decode cMain_findStep 0 = .ok (.iload_n 1, 1) := by decide +kernel
theorem dMain_findStep_1 : decode cMain_findStep 1 = .ok (.ifCond .lt 20, 3) := by decide +kernel
theorem dMain_findStep_4 : decode cMain_findStep 4 = .ok (.iload_n 1, 1) := by decide +kernel
theorem dMain_findStep_5 : decode cMain_findStep 5 = .ok (.aload_n 0, 1) := by decide +kernel
theorem dMain_findStep_6 : decode cMain_findStep 6 = .ok (.getfield 93, 3) := by decide +kernel
theorem dMain_findStep_9 : decode cMain_findStep 9 = .ok (.if_icmp .ge 12, 3) := by decide +kernel
theorem dMain_findStep_12 : decode cMain_findStep 12 = .ok (.iload_n 1, 1) := by decide +kernel
theorem dMain_findStep_13 : decode cMain_findStep 13 = .ok (.aload_n 0, 1) := by decide +kernel
theorem dMain_findStep_14 : decode cMain_findStep 14 = .ok (.getfield 17, 3) := by decide +kernel
theorem dMain_findStep_17 : decode cMain_findStep 17 = .ok (.arraylength, 1) := by decide +kernel
theorem dMain_findStep_18 : decode cMain_findStep 18 = .ok (.if_icmp .lt 7, 3) := by decide +kernel
theorem dMain_findStep_21 : decode cMain_findStep 21 = .ok (.aconst_null, 1) := by decide +kernel
theorem dMain_findStep_22 : decode cMain_findStep 22 = .ok (.goto 9, 3) := by decide +kernel
theorem dMain_findStep_25 : decode cMain_findStep 25 = .ok (.aload_n 0, 1) := by decide +kernel
theorem dMain_findStep_26 : decode cMain_findStep 26 = .ok (.getfield 17, 3) := by decide +kernel
theorem dMain_findStep_29 : decode cMain_findStep 29 = .ok (.iload_n 1, 1) := by decide +kernel
theorem dMain_findStep_30 : decode cMain_findStep 30 = .ok (.aaload, 1) := by decide +kernel
theorem dMain_findStep_31 : decode cMain_findStep 31 = .ok (.areturn, 1) := by decide +kernel
theorem dStep_seenAt_0 : decode cStep_seenAt 0 = .ok (.iconst 0, 1) := by decide +kernel
theorem dStep_seenAt_1 : decode cStep_seenAt 1 = .ok (.istore_n 2, 1) := by decide +kernel
theorem dStep_seenAt_2 : decode cStep_seenAt 2 = .ok (.iconst 0, 1) := by decide +kernel
theorem dStep_seenAt_3 : decode cStep_seenAt 3 = .ok (.istore_n 3, 1) := by decide +kernel
theorem dStep_seenAt_4 : decode cStep_seenAt 4 = .ok (.iload_n 3, 1) := by decide +kernel
theorem dStep_seenAt_5 : decode cStep_seenAt 5 = .ok (.aload_n 0, 1) := by decide +kernel
theorem dStep_seenAt_6 : decode cStep_seenAt 6 = .ok (.getfield 11, 3) := by decide +kernel
theorem dStep_seenAt_9 : decode cStep_seenAt 9 = .ok (.arraylength, 1) := by decide +kernel
theorem dStep_seenAt_10 : decode cStep_seenAt 10 = .ok (.if_icmp .ge 28, 3) := by decide +kernel
theorem dStep_seenAt_13 : decode cStep_seenAt 13 = .ok (.aload_n 0, 1) := by decide +kernel
theorem dStep_seenAt_14 : decode cStep_seenAt 14 = .ok (.getfield 11, 3) := by decide +kernel
theorem dStep_seenAt_17 : decode cStep_seenAt 17 = .ok (.iload_n 3, 1) := by decide +kernel
theorem dStep_seenAt_18 : decode cStep_seenAt 18 = .ok (.aaload, 1) := by decide +kernel
theorem dStep_seenAt_19 : decode cStep_seenAt 19 = .ok (.ifnull 13, 3) := by decide +kernel
theorem dStep_seenAt_22 : decode cStep_seenAt 22 = .ok (.iload_n 2, 1) := by decide +kernel
theorem dStep_seenAt_23 : decode cStep_seenAt 23 = .ok (.iload_n 1, 1) := by decide +kernel
theorem dStep_seenAt_24 : decode cStep_seenAt 24 = .ok (.if_icmp .ne 5, 3) := by decide +kernel
theorem dStep_seenAt_27 : decode cStep_seenAt 27 = .ok (.iload_n 3, 1) := by decide +kernel
theorem dStep_seenAt_28 : decode cStep_seenAt 28 = .ok (.ireturn, 1) := by decide +kernel
theorem dStep_seenAt_29 : decode cStep_seenAt 29 = .ok (.iinc 2 1, 3) := by decide +kernel
theorem dStep_seenAt_32 : decode cStep_seenAt 32 = .ok (.iinc 3 1, 3) := by decide +kernel
theorem dStep_seenAt_35 : decode cStep_seenAt 35 = .ok (.goto (-31), 3) := by decide +kernel
theorem dStep_seenAt_38 : decode cStep_seenAt 38 = .ok (.iconst (-1), 1) := by decide +kernel
theorem dStep_seenAt_39 : decode cStep_seenAt 39 = .ok (.ireturn, 1) := by decide +kernel
theorem dMain_sees_0 : decode cMain_sees 0 = .ok (.aload_n 0, 1) := by decide +kernel
theorem dMain_sees_1 : decode cMain_sees 1 = .ok (.iload_n 1, 1) := by decide +kernel
theorem dMain_sees_2 : decode cMain_sees 2 = .ok (.invokevirtual 101, 3) := by decide +kernel
theorem dMain_sees_5 : decode cMain_sees 5 = .ok (.astore_n 3, 1) := by decide +kernel
theorem dMain_sees_6 : decode cMain_sees 6 = .ok (.aload_n 3, 1) := by decide +kernel
theorem dMain_sees_7 : decode cMain_sees 7 = .ok (.ifnonnull 7, 3) := by decide +kernel
theorem dMain_sees_10 : decode cMain_sees 10 = .ok (.iconst (-1), 1) := by decide +kernel
theorem dMain_sees_11 : decode cMain_sees 11 = .ok (.goto 8, 3) := by decide +kernel
theorem dMain_sees_14 : decode cMain_sees 14 = .ok (.aload_n 3, 1) := by decide +kernel
theorem dMain_sees_15 : decode cMain_sees 15 = .ok (.iload_n 2, 1) := by decide +kernel
theorem dMain_sees_16 : decode cMain_sees 16 = .ok (.invokevirtual 105, 3) := by decide +kernel
theorem dMain_sees_19 : decode cMain_sees 19 = .ok (.ireturn, 1) := by decide +kernel
theorem dStep_keptOf_0 : decode cStep_keptOf 0 = .ok (.iload_n 1, 1) := by decide +kernel
theorem dStep_keptOf_1 : decode cStep_keptOf 1 = .ok (.ifCond .lt 12, 3) := by decide +kernel
theorem dStep_keptOf_4 : decode cStep_keptOf 4 = .ok (.iload_n 1, 1) := by decide +kernel
theorem dStep_keptOf_5 : decode cStep_keptOf 5 = .ok (.aload_n 0, 1) := by decide +kernel
theorem dStep_keptOf_6 : decode cStep_keptOf 6 = .ok (.getfield 11, 3) := by decide +kernel
theorem dStep_keptOf_9 : decode cStep_keptOf 9 = .ok (.arraylength, 1) := by decide +kernel
theorem dStep_keptOf_10 : decode cStep_keptOf 10 = .ok (.if_icmp .lt 7, 3) := by decide +kernel
theorem dStep_keptOf_13 : decode cStep_keptOf 13 = .ok (.aconst_null, 1) := by decide +kernel
theorem dStep_keptOf_14 : decode cStep_keptOf 14 = .ok (.goto 9, 3) := by decide +kernel
theorem dStep_keptOf_17 : decode cStep_keptOf 17 = .ok (.aload_n 0, 1) := by decide +kernel
theorem dStep_keptOf_18 : decode cStep_keptOf 18 = .ok (.getfield 11, 3) := by decide +kernel
theorem dStep_keptOf_21 : decode cStep_keptOf 21 = .ok (.iload_n 1, 1) := by decide +kernel
theorem dStep_keptOf_22 : decode cStep_keptOf 22 = .ok (.aaload, 1) := by decide +kernel
theorem dStep_keptOf_23 : decode cStep_keptOf 23 = .ok (.areturn, 1) := by decide +kernel
def fMain_revoke (n : Nat) (a0 : Nat) (i1 : Int32) (z : gS) : Option (Int32 × gS) :=
    (g_is z a0 8).bind fun _ =>
    g_bp (fMain_findSecret n a0 i1 z) fun r_3 z_2 =>
    g_n r_3 (
    some (0, z_2)) (fun a_4 =>
    (g_fI z_2 a_4 2 6).bind fun v_5 =>
    if v_5 = 0 then (
    (g_pF z_2 a_4 2 6 (.int 1)).bind fun z_7 =>
    some (1, z_7))
    else (
    some (0, z_2)))
set_option maxHeartbeats 4000000 in
set_option maxRecDepth 100000 in
theorem mMain_revoke (l : Launch) (D : va_G) (A : Nat → Prop) (n : Nat) (z z' : gS) (a0 : Nat) (i1 : Int32) (r : Int32) (hf : fMain_revoke n a0 i1 z = some (r, z')) : Met l yMain_revoke wsMain_revoke ({ frames := 1, cells := 0, slots := 0, locals := 21 }) (g_P D vwCl gNN gOO A z [.ref a0, .int i1]) (g_Qi D vwCl A r z') 0 0 A := by
  refine Met.ofW (cc := cMain_revoke) (maxL := 3) (ret := (some .boolean)) (by decide) rfl ?_
  intro p e s m args below meth c s₁ B hml hv
  obtain ⟨rfl, hW, hK, hA0⟩ := hv
  have C : g_C p s m meth c _ cMain_revoke 3 (some .boolean) "SecretRows" gW D vwCl gNN gOO A := ⟨B.exec, B.bytes, B.returns, hml, findClass_of_methodNamed B.named, fun w hw => atoms_spec (ws := wsMain_revoke) B.pre w (List.mem_cons_of_mem _ hw), B.notSynchronized, hK, fun q hq => hA0 q (by rw [← hW.1]; exact hq)⟩
  have hS : va_S A s.heap s.heap [] := va_S.rf
  have hl := lv_entry ([.ref a0, .int i1]) (n := 3) (Nat.le_of_ble_eq_true rfl)
  rw [lg_entry_eq]
  generalize (lg_sl ([.ref a0, .int i1]) ++ List.replicate (3 - (lg_sl ([.ref a0, .int i1])).length) Slot.unset).toArray = ls at hl ⊢
  have hl : lv_has ls 3 [(0, .ref a0), (1, .int i1)] := hl
  obtain ⟨hx, hb, hr, hml, hown, hts, hlocks, hK, hA⟩ := id C
  unfold fMain_revoke at hf
  refine lv_aload_n hx hb dMain_revoke_0 rfl (lv_at hl 0 rfl) ?_
  refine lv_iload_n hx hb dMain_revoke_1 rfl (lv_at hl 1 rfl) ?_
  replace hf := g_bd hf
  obtain ⟨_, hi_1, hf⟩ := hf
  replace hf := g_bps hf
  obtain ⟨r_3, z_2, hz_2, hf⟩ := hf
  refine g_goq (g_rV (As := [.int i1]) (rest := []) ⟨hx, hb, hml, hown, hts⟩ (mMain_findSecret l D A n _ _ a0 i1 _ hz_2) (cwV 1 hts (gi_V kw_170 kw_172 ks_Main_findSecret kw_1 kw_173) rfl rfl rfl ⟨rfl, hdMain_findSecret⟩ ⟨Nat.le_of_ble_eq_true rfl, Nat.le_of_ble_eq_true rfl⟩) hK hW hS hA (ci := 8) (T := T_Main) (N := 14) rfl hi_1 rfl hl.1 rfl (Nat.le_of_ble_eq_true rfl) dMain_revoke_2 ⟨Nat.le_of_ble_eq_true rfl, Nat.le_of_ble_eq_true rfl⟩) hS (fun H locs hW hS => ?_)
  refine g_astore_n (lv' := [(2, va_rf r_3), (0, .ref a0), (1, .int i1)]) hx hb dMain_revoke_5 rfl hl (by decide) rfl (fun _ hl1 => ?_)
  clear hl
  have hl := hl1
  clear hl1
  refine g_aload_n hx hb dMain_revoke_6 rfl (lv_at hl 0 rfl) ?_
  cases r_3 with
  | none =>
    replace hf := g_n0 hf
    replace hl : lv_has _ 3 [(2, .null), (0, .ref a0), (1, .int i1)] := hl
    refine W.eq (g2 := F0 m 7 _ [.null]) rfl ?_
    refine lv_ifnullN (tgt := 17) hx hb dMain_revoke_7 (by decide) ?_
    refine lv_iconst (v := 0) hx hb dMain_revoke_17 (by decide) ?_
    cases hf
    exact g_retz hx hb hr rfl hlocks hW hS (Nat.le_of_ble_eq_true rfl) (Nat.le_of_ble_eq_true rfl) dMain_revoke_18
  | some a_4 =>
    replace hf := g_n1 hf
    replace hl : lv_has _ 3 [(2, .ref a_4), (0, .ref a0), (1, .int i1)] := hl
    refine W.eq (g2 := F0 m 7 _ [.ref a_4]) rfl ?_
    refine lv_ifnull hx hb dMain_revoke_7 ?_
    refine lv_aload_n hx hb dMain_revoke_10 rfl (lv_at hl 0 rfl) ?_
    replace hf := g_bd hf
    obtain ⟨v_5, hv_5, hf⟩ := hf
    refine g_getIN hx hb hts in_Secret hown hK hW (ci := 2) (C := "SecretRows$Secret") (T := T_Secret) (N := 7) rfl (k := 6) (by decide) (host := "SecretRows") kw_142 (fun _ h9 => h9) hv_5 dMain_revoke_11 ?_
    refine lv_if_eq (tgt := 19) hx hb dMain_revoke_14 (by decide) (fun c_6 => ?_) (fun c_6 => ?_)
    · replace hf := g_it c_6 hf
      refine lv_aload_n hx hb dMain_revoke_19 rfl (lv_at hl 0 rfl) ?_
      refine lv_iconst (v := 1) hx hb dMain_revoke_20 (by decide) ?_
      replace hf := g_bd hf
      obtain ⟨z_7, hz_7, hf⟩ := hf
      refine g_putN hx hb hts in_Secret ty_Secret tyok_Secret nm_Secret hown hK hW hS (ci := 2) (C := "SecretRows$Secret") (T := T_Secret) (N := 7) rfl (k := 6) (by decide) (host := "SecretRows") kw_142 (fun _ h9 => h9) rfl (ty := .boolean) (by decide +kernel) rfl rfl hz_7 dMain_revoke_21 (fun H locs hW hS => ?_)
      refine lv_iconst (v := 1) hx hb dMain_revoke_24 (by decide) ?_
      cases hf
      exact g_retz hx hb hr rfl hlocks hW hS (Nat.le_of_ble_eq_true rfl) (Nat.le_of_ble_eq_true rfl) dMain_revoke_25
    · replace hf := g_if c_6 hf
      refine lv_iconst (v := 0) hx hb dMain_revoke_17 (by decide) ?_
      cases hf
      exact g_retz hx hb hr rfl hlocks hW hS (Nat.le_of_ble_eq_true rfl) (Nat.le_of_ble_eq_true rfl) dMain_revoke_18

def fMain_tick (n : Nat) (a0 : Nat) (i1 : Int32) (z : gS) : Option (Int32 × gS) :=
    if i1 < 0 then (
    some ((-1), z))
    else (
    if 100000 < i1 then (
    some ((-1), z))
    else (
    (g_fI z a0 8 10).bind fun v_3 =>
    if v_3 ≤ (1000000000 - i1) then (
    (g_fI z a0 8 10).bind fun v_5 =>
    (g_pF z a0 8 10 (.int (v_5 + i1))).bind fun z_6 =>
    (g_fI z_6 a0 8 10).bind fun v_7 =>
    some (v_7, z_6))
    else (
    some ((-1), z))))
set_option maxHeartbeats 4000000 in
set_option maxRecDepth 100000 in
theorem mMain_tick (l : Launch) (D : va_G) (A : Nat → Prop) (n : Nat) (z z' : gS) (a0 : Nat) (i1 : Int32) (r : Int32) (hf : fMain_tick n a0 i1 z = some (r, z')) : Met l yMain_tick wsMain_tick ({ frames := 0, cells := 0, slots := 0, locals := 0 }) (g_P D vwCl gNN gOO A z [.ref a0, .int i1]) (g_Qi D vwCl A r z') 0 0 A := by
  refine Met.ofW (cc := cMain_tick) (maxL := 2) (ret := (some .int)) (by decide) rfl ?_
  intro p e s m args below meth c s₁ B hml hv
  obtain ⟨rfl, hW, hK, hA0⟩ := hv
  have C : g_C p s m meth c _ cMain_tick 2 (some .int) "SecretRows" gW D vwCl gNN gOO A := ⟨B.exec, B.bytes, B.returns, hml, findClass_of_methodNamed B.named, fun w hw => atoms_spec (ws := wsMain_tick) B.pre w (List.mem_cons_of_mem _ hw), B.notSynchronized, hK, fun q hq => hA0 q (by rw [← hW.1]; exact hq)⟩
  have hS : va_S A s.heap s.heap [] := va_S.rf
  have hl := lv_entry ([.ref a0, .int i1]) (n := 2) (Nat.le_of_ble_eq_true rfl)
  rw [lg_entry_eq]
  generalize (lg_sl ([.ref a0, .int i1]) ++ List.replicate (2 - (lg_sl ([.ref a0, .int i1])).length) Slot.unset).toArray = ls at hl ⊢
  have hl : lv_has ls 2 [(0, .ref a0), (1, .int i1)] := hl
  obtain ⟨hx, hb, hr, hml, hown, hts, hlocks, hK, hA⟩ := id C
  unfold fMain_tick at hf
  refine lv_iload_n hx hb dMain_tick_0 rfl (lv_at hl 1 rfl) ?_
  refine lv_if_lt (tgt := 21) hx hb dMain_tick_1 (by decide) (fun c_1 => ?_) (fun c_1 => ?_)
  · replace hf := g_it c_1 hf
    refine lv_iconst (v := (-1)) hx hb dMain_tick_21 (by decide) ?_
    cases hf
    exact g_reti hx hb hr hlocks hW hS (Nat.le_of_ble_eq_true rfl) (Nat.le_of_ble_eq_true rfl) dMain_tick_22
  · replace hf := g_if c_1 hf
    refine lv_iload_n hx hb dMain_tick_4 rfl (lv_at hl 1 rfl) ?_
    refine lv_ldc (v := 100000) hx hb hown (hts _ kw_178) dMain_tick_5 ?_
    refine lv_icmp_gt (tgt := 21) hx hb dMain_tick_7 (by decide) (fun c_2 => ?_) (fun c_2 => ?_)
    · replace hf := g_it c_2 hf
      refine lv_iconst (v := (-1)) hx hb dMain_tick_21 (by decide) ?_
      cases hf
      exact g_reti hx hb hr hlocks hW hS (Nat.le_of_ble_eq_true rfl) (Nat.le_of_ble_eq_true rfl) dMain_tick_22
    · replace hf := g_if c_2 hf
      refine lv_aload_n hx hb dMain_tick_10 rfl (lv_at hl 0 rfl) ?_
      replace hf := g_bd hf
      obtain ⟨v_3, hv_3, hf⟩ := hf
      refine g_getI hx hb hts in_Main hown hK hW (ci := 8) (C := "SecretRows") (T := T_Main) (N := 14) rfl (k := 10) (by decide) (hts _ kw_91) (fun _ h9 => h9) hv_3 dMain_tick_11 ?_
      refine lv_ldc (v := 1000000000) hx hb hown (hts _ kw_274) dMain_tick_14 ?_
      refine lv_iload_n hx hb dMain_tick_16 rfl (lv_at hl 1 rfl) ?_
      refine lv_isub hx hb dMain_tick_17 ?_
      refine lv_icmp_le (tgt := 23) hx hb dMain_tick_18 (by decide) (fun c_4 => ?_) (fun c_4 => ?_)
      · replace hf := g_it c_4 hf
        refine lv_aload_n hx hb dMain_tick_23 rfl (lv_at hl 0 rfl) ?_
        refine lv_dup hx hb dMain_tick_24 rfl ?_
        replace hf := g_bd hf
        obtain ⟨v_5, hv_5, hf⟩ := hf
        refine g_getI hx hb hts in_Main hown hK hW (ci := 8) (C := "SecretRows") (T := T_Main) (N := 14) rfl (k := 10) (by decide) (hts _ kw_91) (fun _ h9 => h9) hv_5 dMain_tick_25 ?_
        refine lv_iload_n hx hb dMain_tick_28 rfl (lv_at hl 1 rfl) ?_
        refine lv_iadd hx hb dMain_tick_29 ?_
        replace hf := g_bd hf
        obtain ⟨z_6, hz_6, hf⟩ := hf
        refine g_put hx hb hts in_Main ty_Main tyok_Main nm_Main hown hK hW hS (ci := 8) (C := "SecretRows") (T := T_Main) (N := 14) rfl (k := 10) (by decide) (hts _ kw_91) (fun _ h9 => h9) rfl (ty := .int) (by decide +kernel) rfl rfl hz_6 dMain_tick_30 (fun H locs hW hS => ?_)
        refine lv_aload_n hx hb dMain_tick_33 rfl (lv_at hl 0 rfl) ?_
        replace hf := g_bd hf
        obtain ⟨v_7, hv_7, hf⟩ := hf
        refine g_getI hx hb hts in_Main hown hK hW (ci := 8) (C := "SecretRows") (T := T_Main) (N := 14) rfl (k := 10) (by decide) (hts _ kw_91) (fun _ h9 => h9) hv_7 dMain_tick_34 ?_
        cases hf
        exact g_reti hx hb hr hlocks hW hS (Nat.le_of_ble_eq_true rfl) (Nat.le_of_ble_eq_true rfl) dMain_tick_37
      · replace hf := g_if c_4 hf
        refine lv_iconst (v := (-1)) hx hb dMain_tick_21 (by decide) ?_
        cases hf
        exact g_reti hx hb hr hlocks hW hS (Nat.le_of_ble_eq_true rfl) (Nat.le_of_ble_eq_true rfl) dMain_tick_22

def fMain_isBit (n : Nat) (i0 : Int32) (z : gS) : Option (Int32 × gS) :=
    if i0 < 0 then (
    some (0, z))
    else (
    if 7 < i0 then (
    some (0, z))
    else (
    some (1, z)))
set_option maxHeartbeats 4000000 in
set_option maxRecDepth 100000 in
theorem mMain_isBit (l : Launch) (D : va_G) (A : Nat → Prop) (n : Nat) (z z' : gS) (i0 : Int32) (r : Int32) (hf : fMain_isBit n i0 z = some (r, z')) : Met l yMain_isBit wsMain_isBit ({ frames := 0, cells := 0, slots := 0, locals := 0 }) (g_P D vwCl gNN gOO A z [.int i0]) (g_Qi D vwCl A r z') 0 0 A := by
  refine Met.ofW (cc := cMain_isBit) (maxL := 1) (ret := (some .boolean)) (by decide) rfl ?_
  intro p e s m args below meth c s₁ B hml hv
  obtain ⟨rfl, hW, hK, hA0⟩ := hv
  have C : g_C p s m meth c _ cMain_isBit 1 (some .boolean) "SecretRows" gW D vwCl gNN gOO A := ⟨B.exec, B.bytes, B.returns, hml, findClass_of_methodNamed B.named, fun w hw => atoms_spec (ws := wsMain_isBit) B.pre w (List.mem_cons_of_mem _ hw), B.notSynchronized, hK, fun q hq => hA0 q (by rw [← hW.1]; exact hq)⟩
  have hS : va_S A s.heap s.heap [] := va_S.rf
  have hl := lv_entry ([.int i0]) (n := 1) (Nat.le_of_ble_eq_true rfl)
  rw [lg_entry_eq]
  generalize (lg_sl ([.int i0]) ++ List.replicate (1 - (lg_sl ([.int i0])).length) Slot.unset).toArray = ls at hl ⊢
  have hl : lv_has ls 1 [(0, .int i0)] := hl
  obtain ⟨hx, hb, hr, hml, hown, hts, hlocks, hK, hA⟩ := id C
  unfold fMain_isBit at hf
  refine lv_iload_n hx hb dMain_isBit_0 rfl (lv_at hl 0 rfl) ?_
  refine lv_if_lt (tgt := 14) hx hb dMain_isBit_1 (by decide) (fun c_1 => ?_) (fun c_1 => ?_)
  · replace hf := g_it c_1 hf
    refine lv_iconst (v := 0) hx hb dMain_isBit_14 (by decide) ?_
    cases hf
    exact g_retz hx hb hr rfl hlocks hW hS (Nat.le_of_ble_eq_true rfl) (Nat.le_of_ble_eq_true rfl) dMain_isBit_15
  · replace hf := g_if c_1 hf
    refine lv_iload_n hx hb dMain_isBit_4 rfl (lv_at hl 0 rfl) ?_
    refine lv_bipush (v := 7) hx hb dMain_isBit_5 (by decide) ?_
    refine lv_icmp_gt (tgt := 14) hx hb dMain_isBit_7 (by decide) (fun c_2 => ?_) (fun c_2 => ?_)
    · replace hf := g_it c_2 hf
      refine lv_iconst (v := 0) hx hb dMain_isBit_14 (by decide) ?_
      cases hf
      exact g_retz hx hb hr rfl hlocks hW hS (Nat.le_of_ble_eq_true rfl) (Nat.le_of_ble_eq_true rfl) dMain_isBit_15
    · replace hf := g_if c_2 hf
      refine lv_iconst (v := 1) hx hb dMain_isBit_10 (by decide) ?_
      refine lv_goto (tgt := 15) hx hb dMain_isBit_11 (by decide) ?_
      cases hf
      exact g_retz hx hb hr rfl hlocks hW hS (Nat.le_of_ble_eq_true rfl) (Nat.le_of_ble_eq_true rfl) dMain_isBit_15

def fLog_init (n : Nat) (a0 : Nat) (z : gS) : Option (gS) :=
    g_bp (g_nwO z 0 [.null, .int 0]) fun a_1 z_2 =>
    (fText_init n a_1 300 z_2).bind fun z_3 =>
    (g_pF z_3 a0 3 0 (.ref a_1)).bind fun z_4 =>
    g_bp (g_nwO z_4 0 [.null, .int 0]) fun a_5 z_6 =>
    (fText_init n a_5 300 z_6).bind fun z_7 =>
    (g_pF z_7 a0 3 1 (.ref a_5)).bind fun z_8 =>
    some z_8
set_option maxHeartbeats 4000000 in
set_option maxRecDepth 100000 in
theorem mLog_init (l : Launch) (D : va_G) (A : Nat → Prop) (n : Nat) (z z' : gS) (a0 : Nat) (hf : fLog_init n a0 z = some z') : Met l yLog_init wsLog_init ({ frames := 2, cells := 4, slots := 604, locals := 36 }) (g_P D vwCl gNN gOO A z [.ref a0]) (g_Qv D vwCl A z') 4 604 A := by
  refine Met.ofW (cc := cLog_init) (maxL := 1) (ret := none) (by decide) rfl ?_
  intro p e s m args below meth c s₁ B hml hv
  obtain ⟨rfl, hW, hK, hA0⟩ := hv
  have hin : meth.name = "<init>" := (name_of_methodNamed B.named B.method).1
  have C : g_C p s m meth c _ cLog_init 1 none "SecretRows$Log" gW D vwCl gNN gOO A := ⟨B.exec, B.bytes, B.returns, hml, findClass_of_methodNamed B.named, fun w hw => atoms_spec (ws := wsLog_init) B.pre w (List.mem_cons_of_mem _ hw), B.notSynchronized, hK, fun q hq => hA0 q (by rw [← hW.1]; exact hq)⟩
  have hS : va_S A s.heap s.heap [] := va_S.rf
  have hl := lv_entry ([.ref a0]) (n := 1) (Nat.le_of_ble_eq_true rfl)
  rw [lg_entry_eq]
  generalize (lg_sl ([.ref a0]) ++ List.replicate (1 - (lg_sl ([.ref a0])).length) Slot.unset).toArray = ls at hl ⊢
  have hl : lv_has ls 1 [(0, .ref a0)] := hl
  obtain ⟨hx, hb, hr, hml, hown, hts, hlocks, hK, hA⟩ := id C
  unfold fLog_init at hf
  refine lv_aload_n hx hb dLog_init_0 rfl (lv_at hl 0 rfl) ?_
  refine W.objInit hx hb hown (hts _ kw_294) (hts _ kw_18) (hts _ kw_19) rfl (by rw [hml]; exact hl.1) rfl dLog_init_1 (Nat.le_of_ble_eq_true rfl) (Nat.le_of_ble_eq_true rfl) ?_
  refine W.eq (g2 := F0 m 4 _ []) rfl ?_
  refine lv_aload_n hx hb dLog_init_4 rfl (lv_at hl 0 rfl) ?_
  replace hf := g_bps hf
  obtain ⟨a_1, z_2, hz_2, hf⟩ := hf
  refine g_newO hx hb hts in_Text ty_Text tyok_Text hown (hts _ kw_295) (hts _ kw_41) (hts _ kw_3) hK hW hS hA (ci := 0) (C := "SecretRows$Text") (T := T_Text) (N := 2) rfl (fun j hj => by rcases (show j = 0 ∨ j = 1 by omega) with rfl | rfl <;> rfl) (Nat.le_of_ble_eq_true rfl) (Nat.le_of_ble_eq_true rfl) hz_2 dLog_init_5 (fun H hW hS => ?_)
  refine W.cs (cells' := 1) (slots' := 2) rfl rfl ?_
  refine lv_dup hx hb dLog_init_8 rfl ?_
  refine lv_sipush (v := 300) hx hb dLog_init_9 (by decide) ?_
  replace hf := g_bd hf
  obtain ⟨z_3, hz_3, hf⟩ := hf
  refine g_gov (g_rI (As := [.int 300]) (rest := [.ref a_1, .ref a0]) ⟨hx, hb, hml, hown, hts⟩ (mText_init l D A n _ _ a_1 300 hz_3) (cwI 1 hts (gi_I kw_44) rfl rfl rfl (hts _ kw_3) (hts _ kw_296) (hts _ kw_43) rfl hdText_init ⟨Nat.le_of_ble_eq_true rfl, Nat.le_of_ble_eq_true rfl⟩) hK hW hS hA rfl hl.1 rfl (Nat.le_of_ble_eq_true rfl) dLog_init_12 ⟨Nat.le_of_ble_eq_true rfl, Nat.le_of_ble_eq_true rfl⟩) hS (fun H locs hW hS => ?_)
  refine W.cs (cells' := 2) (slots' := 302) rfl rfl ?_
  replace hf := g_bd hf
  obtain ⟨z_4, hz_4, hf⟩ := hf
  refine g_putF hx hb hts in_Log ty_Log tyok_Log nm_Log hown hK hW hS (ci := 3) (C := "SecretRows$Log") (T := T_Log) (N := 5) rfl (k := 0) (by decide) (hts _ kw_297) (fun _ h9 => h9) rfl hin rfl (ty := (.object "SecretRows$Text")) (by decide +kernel) rfl rfl hz_4 dLog_init_15 (fun H locs hW hS => ?_)
  refine lv_aload_n hx hb dLog_init_18 rfl (lv_at hl 0 rfl) ?_
  replace hf := g_bps hf
  obtain ⟨a_5, z_6, hz_6, hf⟩ := hf
  refine g_newO hx hb hts in_Text ty_Text tyok_Text hown (hts _ kw_295) (hts _ kw_41) (hts _ kw_3) hK hW hS hA (ci := 0) (C := "SecretRows$Text") (T := T_Text) (N := 2) rfl (fun j hj => by rcases (show j = 0 ∨ j = 1 by omega) with rfl | rfl <;> rfl) (Nat.le_of_ble_eq_true rfl) (Nat.le_of_ble_eq_true rfl) hz_6 dLog_init_19 (fun H hW hS => ?_)
  refine W.cs (cells' := 3) (slots' := 304) rfl rfl ?_
  refine lv_dup hx hb dLog_init_22 rfl ?_
  refine lv_sipush (v := 300) hx hb dLog_init_23 (by decide) ?_
  replace hf := g_bd hf
  obtain ⟨z_7, hz_7, hf⟩ := hf
  refine g_gov (g_rI (As := [.int 300]) (rest := [.ref a_5, .ref a0]) ⟨hx, hb, hml, hown, hts⟩ (mText_init l D A n _ _ a_5 300 hz_7) (cwI 1 hts (gi_I kw_44) rfl rfl rfl (hts _ kw_3) (hts _ kw_296) (hts _ kw_43) rfl hdText_init ⟨Nat.le_of_ble_eq_true rfl, Nat.le_of_ble_eq_true rfl⟩) hK hW hS hA rfl hl.1 rfl (Nat.le_of_ble_eq_true rfl) dLog_init_26 ⟨Nat.le_of_ble_eq_true rfl, Nat.le_of_ble_eq_true rfl⟩) hS (fun H locs hW hS => ?_)
  refine W.cs (cells' := 4) (slots' := 604) rfl rfl ?_
  replace hf := g_bd hf
  obtain ⟨z_8, hz_8, hf⟩ := hf
  refine g_putF hx hb hts in_Log ty_Log tyok_Log nm_Log hown hK hW hS (ci := 3) (C := "SecretRows$Log") (T := T_Log) (N := 5) rfl (k := 1) (by decide) (hts _ kw_298) (fun _ h9 => h9) rfl hin rfl (ty := (.object "SecretRows$Text")) (by decide +kernel) rfl rfl hz_8 dLog_init_29 (fun H locs hW hS => ?_)
  cases hf
  exact g_retv hx hb hr hlocks hW hS (Nat.le_of_ble_eq_true rfl) (Nat.le_of_ble_eq_true rfl) dLog_init_32

def fStep_init (n : Nat) (a0 : Nat) (z : gS) : Option (gS) :=
    g_bp (g_nwR z (.object "SecretRows$Value") 10 10) fun a_1 z_2 =>
    (g_pF z_2 a0 4 0 (.ref a_1)).bind fun z_3 =>
    g_bp (g_nwO z_3 3 [.null, .null, .int 0, .int 0, .int 0]) fun a_4 z_5 =>
    (fLog_init n a_4 z_5).bind fun z_6 =>
    (g_pF z_6 a0 4 1 (.ref a_4)).bind fun z_7 =>
    some z_7
set_option maxHeartbeats 4000000 in
set_option maxRecDepth 100000 in
theorem mStep_init (l : Launch) (D : va_G) (A : Nat → Prop) (n : Nat) (z z' : gS) (a0 : Nat) (hf : fStep_init n a0 z = some z') : Met l yStep_init wsStep_init ({ frames := 3, cells := 6, slots := 619, locals := 56 }) (g_P D vwCl gNN gOO A z [.ref a0]) (g_Qv D vwCl A z') 6 619 A := by
  refine Met.ofW (cc := cStep_init) (maxL := 1) (ret := none) (by decide) rfl ?_
  intro p e s m args below meth c s₁ B hml hv
  obtain ⟨rfl, hW, hK, hA0⟩ := hv
  have hin : meth.name = "<init>" := (name_of_methodNamed B.named B.method).1
  have C : g_C p s m meth c _ cStep_init 1 none "SecretRows$Step" gW D vwCl gNN gOO A := ⟨B.exec, B.bytes, B.returns, hml, findClass_of_methodNamed B.named, fun w hw => atoms_spec (ws := wsStep_init) B.pre w (List.mem_cons_of_mem _ hw), B.notSynchronized, hK, fun q hq => hA0 q (by rw [← hW.1]; exact hq)⟩
  have hS : va_S A s.heap s.heap [] := va_S.rf
  have hl := lv_entry ([.ref a0]) (n := 1) (Nat.le_of_ble_eq_true rfl)
  rw [lg_entry_eq]
  generalize (lg_sl ([.ref a0]) ++ List.replicate (1 - (lg_sl ([.ref a0])).length) Slot.unset).toArray = ls at hl ⊢
  have hl : lv_has ls 1 [(0, .ref a0)] := hl
  obtain ⟨hx, hb, hr, hml, hown, hts, hlocks, hK, hA⟩ := id C
  unfold fStep_init at hf
  refine lv_aload_n hx hb dStep_init_0 rfl (lv_at hl 0 rfl) ?_
  refine W.objInit hx hb hown (hts _ kw_286) (hts _ kw_18) (hts _ kw_19) rfl (by rw [hml]; exact hl.1) rfl dStep_init_1 (Nat.le_of_ble_eq_true rfl) (Nat.le_of_ble_eq_true rfl) ?_
  refine W.eq (g2 := F0 m 4 _ []) rfl ?_
  refine lv_aload_n hx hb dStep_init_4 rfl (lv_at hl 0 rfl) ?_
  refine lv_bipush (v := 10) hx hb dStep_init_5 (by decide) ?_
  replace hf := g_bps hf
  obtain ⟨a_1, z_2, hz_2, hf⟩ := hf
  refine g_newR hx hb hown (hts _ kw_287) hK (by decide +kernel) hW hS hA (B := 10) (Nat.le_of_ble_eq_true rfl) (Nat.le_of_ble_eq_true rfl) (Nat.le_of_ble_eq_true rfl) hz_2 dStep_init_7 (fun H hW hS => ?_)
  refine W.cs (cells' := 1) (slots' := 10) rfl rfl ?_
  replace hf := g_bd hf
  obtain ⟨z_3, hz_3, hf⟩ := hf
  refine g_putF hx hb hts in_Step ty_Step tyok_Step nm_Step hown hK hW hS (ci := 4) (C := "SecretRows$Step") (T := T_Step) (N := 2) rfl (k := 0) (by decide) (hts _ kw_316) (fun _ h9 => h9) rfl hin rfl (ty := (.array (.object "SecretRows$Value"))) (by decide +kernel) rfl rfl hz_3 dStep_init_10 (fun H locs hW hS => ?_)
  refine lv_aload_n hx hb dStep_init_13 rfl (lv_at hl 0 rfl) ?_
  replace hf := g_bps hf
  obtain ⟨a_4, z_5, hz_5, hf⟩ := hf
  refine g_newO hx hb hts in_Log ty_Log tyok_Log hown (hts _ kw_289) (hts _ kw_290) (hts _ kw_10) hK hW hS hA (ci := 3) (C := "SecretRows$Log") (T := T_Log) (N := 5) rfl (fun j hj => by rcases (show j = 0 ∨ j = 1 ∨ j = 2 ∨ j = 3 ∨ j = 4 by omega) with rfl | rfl | rfl | rfl | rfl <;> rfl) (Nat.le_of_ble_eq_true rfl) (Nat.le_of_ble_eq_true rfl) hz_5 dStep_init_14 (fun H hW hS => ?_)
  refine W.cs (cells' := 2) (slots' := 15) rfl rfl ?_
  refine lv_dup hx hb dStep_init_17 rfl ?_
  replace hf := g_bd hf
  obtain ⟨z_6, hz_6, hf⟩ := hf
  refine g_gov (g_rI (As := []) (rest := [.ref a_4, .ref a0]) ⟨hx, hb, hml, hown, hts⟩ (mLog_init l D A n _ _ a_4 hz_6) (cwI 0 hts (gi_I kw_293) rfl rfl rfl (hts _ kw_10) (hts _ kw_291) (hts _ kw_292) rfl hdLog_init ⟨Nat.le_of_ble_eq_true rfl, Nat.le_of_ble_eq_true rfl⟩) hK hW hS hA rfl hl.1 rfl (Nat.le_of_ble_eq_true rfl) dStep_init_18 ⟨Nat.le_of_ble_eq_true rfl, Nat.le_of_ble_eq_true rfl⟩) hS (fun H locs hW hS => ?_)
  refine W.cs (cells' := 6) (slots' := 619) rfl rfl ?_
  replace hf := g_bd hf
  obtain ⟨z_7, hz_7, hf⟩ := hf
  refine g_putF hx hb hts in_Step ty_Step tyok_Step nm_Step hown hK hW hS (ci := 4) (C := "SecretRows$Step") (T := T_Step) (N := 2) rfl (k := 1) (by decide) (hts _ kw_317) (fun _ h9 => h9) rfl hin rfl (ty := (.object "SecretRows$Log")) (by decide +kernel) rfl rfl hz_7 dStep_init_21 (fun H locs hW hS => ?_)
  cases hf
  exact g_retv hx hb hr hlocks hW hS (Nat.le_of_ble_eq_true rfl) (Nat.le_of_ble_eq_true rfl) dStep_init_24

def fSecret_isFor (n : Nat) (a0 : Nat) (i1 : Int32) (i2 : Int32) (i3 : Int32) (z : gS) : Option (Int32 × gS) :=
    (g_fI z a0 2 0).bind fun v_1 =>
    (g_fI z a0 2 1).bind fun v_2 =>
    (g_fI z a0 2 2).bind fun v_3 =>
    if (((((v_1 >>> (i1 &&& 31)) &&& (v_2 >>> (i2 &&& 31))) &&& (v_3 >>> (i3 &&& 31))) &&& 1)) = 1 then (
    some (1, z))
    else (
    some (0, z))
set_option maxHeartbeats 4000000 in
set_option maxRecDepth 100000 in
theorem mSecret_isFor (l : Launch) (D : va_G) (A : Nat → Prop) (n : Nat) (z z' : gS) (a0 : Nat) (i1 : Int32) (i2 : Int32) (i3 : Int32) (r : Int32) (hf : fSecret_isFor n a0 i1 i2 i3 z = some (r, z')) : Met l ySecret_isFor wsSecret_isFor ({ frames := 0, cells := 0, slots := 0, locals := 0 }) (g_P D vwCl gNN gOO A z [.ref a0, .int i1, .int i2, .int i3]) (g_Qi D vwCl A r z') 0 0 A := by
  refine Met.ofW (cc := cSecret_isFor) (maxL := 4) (ret := (some .boolean)) (by decide) rfl ?_
  intro p e s m args below meth c s₁ B hml hv
  obtain ⟨rfl, hW, hK, hA0⟩ := hv
  have C : g_C p s m meth c _ cSecret_isFor 4 (some .boolean) "SecretRows$Secret" gW D vwCl gNN gOO A := ⟨B.exec, B.bytes, B.returns, hml, findClass_of_methodNamed B.named, fun w hw => atoms_spec (ws := wsSecret_isFor) B.pre w (List.mem_cons_of_mem _ hw), B.notSynchronized, hK, fun q hq => hA0 q (by rw [← hW.1]; exact hq)⟩
  have hS : va_S A s.heap s.heap [] := va_S.rf
  have hl := lv_entry ([.ref a0, .int i1, .int i2, .int i3]) (n := 4) (Nat.le_of_ble_eq_true rfl)
  rw [lg_entry_eq]
  generalize (lg_sl ([.ref a0, .int i1, .int i2, .int i3]) ++ List.replicate (4 - (lg_sl ([.ref a0, .int i1, .int i2, .int i3])).length) Slot.unset).toArray = ls at hl ⊢
  have hl : lv_has ls 4 [(0, .ref a0), (1, .int i1), (2, .int i2), (3, .int i3)] := hl
  obtain ⟨hx, hb, hr, hml, hown, hts, hlocks, hK, hA⟩ := id C
  unfold fSecret_isFor at hf
  refine lv_aload_n hx hb dSecret_isFor_0 rfl (lv_at hl 0 rfl) ?_
  replace hf := g_bd hf
  obtain ⟨v_1, hv_1, hf⟩ := hf
  refine g_getI hx hb hts in_Secret hown hK hW (ci := 2) (C := "SecretRows$Secret") (T := T_Secret) (N := 7) rfl (k := 0) (by decide) (hts _ kw_133) (fun _ h9 => h9) hv_1 dSecret_isFor_1 ?_
  refine lv_iload_n hx hb dSecret_isFor_4 rfl (lv_at hl 1 rfl) ?_
  refine lv_ishr hx hb dSecret_isFor_5 ?_
  refine lv_aload_n hx hb dSecret_isFor_6 rfl (lv_at hl 0 rfl) ?_
  replace hf := g_bd hf
  obtain ⟨v_2, hv_2, hf⟩ := hf
  refine g_getI hx hb hts in_Secret hown hK hW (ci := 2) (C := "SecretRows$Secret") (T := T_Secret) (N := 7) rfl (k := 1) (by decide) (hts _ kw_134) (fun _ h9 => h9) hv_2 dSecret_isFor_7 ?_
  refine lv_iload_n hx hb dSecret_isFor_10 rfl (lv_at hl 2 rfl) ?_
  refine lv_ishr hx hb dSecret_isFor_11 ?_
  refine lv_iand hx hb dSecret_isFor_12 ?_
  refine lv_aload_n hx hb dSecret_isFor_13 rfl (lv_at hl 0 rfl) ?_
  replace hf := g_bd hf
  obtain ⟨v_3, hv_3, hf⟩ := hf
  refine g_getI hx hb hts in_Secret hown hK hW (ci := 2) (C := "SecretRows$Secret") (T := T_Secret) (N := 7) rfl (k := 2) (by decide) (hts _ kw_135) (fun _ h9 => h9) hv_3 dSecret_isFor_14 ?_
  refine lv_iload_n hx hb dSecret_isFor_17 rfl (lv_at hl 3 rfl) ?_
  refine lv_ishr hx hb dSecret_isFor_18 ?_
  refine lv_iand hx hb dSecret_isFor_19 ?_
  refine lv_iconst (v := 1) hx hb dSecret_isFor_20 (by decide) ?_
  refine lv_iand hx hb dSecret_isFor_21 ?_
  refine lv_iconst (v := 1) hx hb dSecret_isFor_22 (by decide) ?_
  refine lv_icmp_ne (tgt := 30) hx hb dSecret_isFor_23 (by decide) (fun c_4 => ?_) (fun c_4 => ?_)
  · replace hf := g_if c_4 hf
    refine lv_iconst (v := 0) hx hb dSecret_isFor_30 (by decide) ?_
    cases hf
    exact g_retz hx hb hr rfl hlocks hW hS (Nat.le_of_ble_eq_true rfl) (Nat.le_of_ble_eq_true rfl) dSecret_isFor_31
  · replace hf := g_it c_4 hf
    refine lv_iconst (v := 1) hx hb dSecret_isFor_26 (by decide) ?_
    refine lv_goto (tgt := 31) hx hb dSecret_isFor_27 (by decide) ?_
    cases hf
    exact g_retz hx hb hr rfl hlocks hW hS (Nat.le_of_ble_eq_true rfl) (Nat.le_of_ble_eq_true rfl) dSecret_isFor_31

def fStep_keep (n : Nat) (a0 : Nat) (i1 : Int32) (r2 : Option Nat) (z : gS) : Option (gS) :=
    if i1 < 0 then (
    some z)
    else (
    (g_fR z a0 4 0).bind fun r_2 =>
    r_2.bind fun a_3 =>
    (g_len z a_3).bind fun v_4 =>
    if v_4 ≤ i1 then (
    some z)
    else (
    (g_fR z a0 4 0).bind fun r_6 =>
    r_6.bind fun a_7 =>
    g_n r2 (
    (g_stR z (.object "SecretRows$Value") a_7 i1 none).bind fun z_8 =>
    some z_8) (fun a_9 =>
    (g_is z a_9 1).bind fun _ =>
    (g_stR z (.object "SecretRows$Value") a_7 i1 (some a_9)).bind fun z_8 =>
    some z_8)))
set_option maxHeartbeats 4000000 in
set_option maxRecDepth 100000 in
theorem mStep_keep (l : Launch) (D : va_G) (A : Nat → Prop) (n : Nat) (z z' : gS) (a0 : Nat) (i1 : Int32) (r2 : Option Nat) (hf : fStep_keep n a0 i1 r2 z = some z') : Met l yStep_keep wsStep_keep ({ frames := 0, cells := 0, slots := 0, locals := 0 }) (g_P D vwCl gNN gOO A z [.ref a0, .int i1, va_rf r2]) (g_Qv D vwCl A z') 0 0 A := by
  refine Met.ofW (cc := cStep_keep) (maxL := 3) (ret := none) (by decide) rfl ?_
  intro p e s m args below meth c s₁ B hml hv
  obtain ⟨rfl, hW, hK, hA0⟩ := hv
  have C : g_C p s m meth c _ cStep_keep 3 none "SecretRows$Step" gW D vwCl gNN gOO A := ⟨B.exec, B.bytes, B.returns, hml, findClass_of_methodNamed B.named, fun w hw => atoms_spec (ws := wsStep_keep) B.pre w (List.mem_cons_of_mem _ hw), B.notSynchronized, hK, fun q hq => hA0 q (by rw [← hW.1]; exact hq)⟩
  have hS : va_S A s.heap s.heap [] := va_S.rf
  have hl := lv_entry ([.ref a0, .int i1, va_rf r2]) (n := 3) (by cases r2 <;> exact Nat.le_of_ble_eq_true rfl)
  rw [lg_entry_eq]
  generalize (lg_sl ([.ref a0, .int i1, va_rf r2]) ++ List.replicate (3 - (lg_sl ([.ref a0, .int i1, va_rf r2])).length) Slot.unset).toArray = ls at hl ⊢
  have hl : lv_has ls 3 [(0, .ref a0), (1, .int i1), (2, va_rf r2)] := by cases r2 <;> exact hl
  obtain ⟨hx, hb, hr, hml, hown, hts, hlocks, hK, hA⟩ := id C
  unfold fStep_keep at hf
  refine lv_iload_n hx hb dStep_keep_0 rfl (lv_at hl 1 rfl) ?_
  refine lv_if_lt (tgt := 20) hx hb dStep_keep_1 (by decide) (fun c_1 => ?_) (fun c_1 => ?_)
  · replace hf := g_it c_1 hf
    cases hf
    exact g_retv hx hb hr hlocks hW hS (Nat.le_of_ble_eq_true rfl) (Nat.le_of_ble_eq_true rfl) dStep_keep_20
  · replace hf := g_if c_1 hf
    refine lv_iload_n hx hb dStep_keep_4 rfl (lv_at hl 1 rfl) ?_
    refine lv_aload_n hx hb dStep_keep_5 rfl (lv_at hl 0 rfl) ?_
    replace hf := g_bd hf
    obtain ⟨r_2, hr_2, hf⟩ := hf
    refine g_getR hx hb hts in_Step hown hK hW (ci := 4) (C := "SecretRows$Step") (T := T_Step) (N := 2) rfl (k := 0) (by decide) (hts _ kw_316) (fun _ h9 => h9) hr_2 dStep_keep_6 ?_
    replace hf := g_bd hf
    obtain ⟨a_3, ea_3, hf⟩ := hf
    subst ea_3
    refine W.eq (g2 := F0 m 9 _ [.ref a_3, .int i1]) rfl ?_
    replace hf := g_bd hf
    obtain ⟨v_4, hv_4, hf⟩ := hf
    refine g_alen hx hb hK hW hv_4 dStep_keep_9 ?_
    refine lv_icmp_ge (tgt := 20) hx hb dStep_keep_10 (by decide) (fun c_5 => ?_) (fun c_5 => ?_)
    · replace hf := g_it c_5 hf
      cases hf
      exact g_retv hx hb hr hlocks hW hS (Nat.le_of_ble_eq_true rfl) (Nat.le_of_ble_eq_true rfl) dStep_keep_20
    · replace hf := g_if c_5 hf
      refine lv_aload_n hx hb dStep_keep_13 rfl (lv_at hl 0 rfl) ?_
      replace hf := g_bd hf
      obtain ⟨r_6, hr_6, hf⟩ := hf
      refine g_getR hx hb hts in_Step hown hK hW (ci := 4) (C := "SecretRows$Step") (T := T_Step) (N := 2) rfl (k := 0) (by decide) (hts _ kw_316) (fun _ h9 => h9) hr_6 dStep_keep_14 ?_
      refine lv_iload_n hx hb dStep_keep_17 rfl (lv_at hl 1 rfl) ?_
      refine g_aload_n hx hb dStep_keep_18 rfl (lv_at hl 2 rfl) ?_
      replace hf := g_bd hf
      obtain ⟨a_7, ea_7, hf⟩ := hf
      subst ea_7
      refine W.eq (g2 := F0 m 19 _ [va_rf r2, .int i1, .ref a_7]) rfl ?_
      cases r2 with
      | none =>
        replace hf := g_n0 hf
        replace hl : lv_has _ 3 [(0, .ref a0), (1, .int i1), (2, .null)] := hl
        refine W.eq (g2 := F0 m 19 _ [.null, .int i1, .ref a_7]) rfl ?_
        replace hf := g_bd hf
        obtain ⟨z_8, hz_8, hf⟩ := hf
        refine g_ast_n hx hb hW hS hz_8 dStep_keep_19 (fun H locs hW hS => ?_)
        cases hf
        exact g_retv hx hb hr hlocks hW hS (Nat.le_of_ble_eq_true rfl) (Nat.le_of_ble_eq_true rfl) dStep_keep_20
      | some a_9 =>
        replace hf := g_n1 hf
        replace hl : lv_has _ 3 [(0, .ref a0), (1, .int i1), (2, .ref a_9)] := hl
        refine W.eq (g2 := F0 m 19 _ [.ref a_9, .int i1, .ref a_7]) rfl ?_
        replace hf := g_bd hf
        obtain ⟨_, hz_8i, hf⟩ := hf
        replace hf := g_bd hf
        obtain ⟨z_8, hz_8, hf⟩ := hf
        refine g_ast_r (r := ("SecretRows$Value", T_Value, 4)) (ci := 1) hx hb hK hW hS rfl hz_8i hz_8 dStep_keep_19 (fun H locs hW hS => ?_)
        cases hf
        exact g_retv hx hb hr hlocks hW hS (Nat.le_of_ble_eq_true rfl) (Nat.le_of_ble_eq_true rfl) dStep_keep_20

def fMain_keepSeen_L3 (n : Nat) : Nat → Nat → Nat → Int32 → Int32 → Int32 → Int32 → gS → Option (gS)
  | 0, _, _, _, _, _, _, _ => none
  | k + 1, a0b, a1b, i2b, i3b, i4b, i5b, z =>
    (g_fI z a0b 8 6).bind fun v_1 =>
    if v_1 ≤ i5b then (
    some z)
    else (
    (g_is z a0b 8).bind fun _ =>
    g_bp (fMain_findSecret n a0b i5b z) fun r_5 z_4 =>
    g_n r_5 (
    fMain_keepSeen_L3 n k a0b a1b i2b i3b i4b (i5b + 1) z_4) (fun a_6 =>
    (g_fI z_4 a_6 2 6).bind fun v_7 =>
    if v_7 = 0 then (
    (g_is z_4 a_6 2).bind fun _ =>
    g_bp (fSecret_isFor n a_6 i2b i3b i4b z_4) fun v_11 z_10 =>
    if v_11 = 0 then (
    fMain_keepSeen_L3 n k a0b a1b i2b i3b i4b (i5b + 1) z_10)
    else (
    (g_fR z_10 a_6 2 3).bind fun r_13 =>
    (g_is z_10 a1b 4).bind fun _ =>
    (fStep_keep n a1b i5b r_13 z_10).bind fun z_15 =>
    fMain_keepSeen_L3 n k a0b a1b i2b i3b i4b (i5b + 1) z_15))
    else (
    fMain_keepSeen_L3 n k a0b a1b i2b i3b i4b (i5b + 1) z_4)))
set_option maxHeartbeats 4000000 in
set_option maxRecDepth 100000 in
theorem bMain_keepSeen_3 {p : Program} {l : Launch} {e : Env} {s : State} {m : MethodId} {args : Array Value} {below : List Frame} {meth : Method} {c : Code} {D : va_G} {A : Nat → Prop} (C : g_C p s m meth c args cMain_keepSeen 7 none "SecretRows" gW D vwCl gNN gOO A) (n : Nat) {z' : gS} : ∀ k : Nat, ∀ (a0b : Nat) (a1b : Nat) (i2b : Int32) (i3b : Int32) (i4b : Int32) (i5b : Int32) (z : gS) (H : Heap) (locs : List Loc) (ls : Array Slot), fMain_keepSeen_L3 n k a0b a1b i2b i3b i4b i5b z = some z' → g_W D vwCl A z s H → va_S A s.heap H locs → lv_has ls 7 [(0, .ref a0b), (1, .ref a1b), (2, .int i2b), (3, .int i3b), (4, .int i4b), (5, .int i5b)] → W p l e (headSpec wsMain_keepSeen ({ frames := 1, cells := 0, slots := 0, locals := 23 })).room s m args below meth c H locs 0 0 (MQ below (g_Qv D vwCl A z') args s 0 0 A) (F0 m 3 ls []) := by
  obtain ⟨hx, hb, hr, hml, hown, hts, hlocks, hK, hA⟩ := id C
  intro k
  induction k with
  | zero =>
    intro a0b a1b i2b i3b i4b i5b z H locs ls hf
    have hf : (none : Option (gS)) = some _ := hf
    cases hf
  | succ k ih =>
    intro a0b a1b i2b i3b i4b i5b z H locs ls hf hW hS hl
    rw [fMain_keepSeen_L3] at hf
    refine lv_iload hx hb dMain_keepSeen_3 (lv_at hl 5 rfl) ?_
    refine lv_aload_n hx hb dMain_keepSeen_5 rfl (lv_at hl 0 rfl) ?_
    replace hf := g_bd hf
    obtain ⟨v_1, hv_1, hf⟩ := hf
    refine g_getI hx hb hts in_Main hown hK hW (ci := 8) (C := "SecretRows") (T := T_Main) (N := 14) rfl (k := 6) (by decide) (hts _ kw_87) (fun _ h9 => h9) hv_1 dMain_keepSeen_6 ?_
    refine lv_icmp_ge (tgt := 62) hx hb dMain_keepSeen_9 (by decide) (fun c_2 => ?_) (fun c_2 => ?_)
    · replace hf := g_it c_2 hf
      cases hf
      exact g_retv hx hb hr hlocks hW hS (Nat.le_of_ble_eq_true rfl) (Nat.le_of_ble_eq_true rfl) dMain_keepSeen_62
    · replace hf := g_if c_2 hf
      refine lv_aload_n hx hb dMain_keepSeen_12 rfl (lv_at hl 0 rfl) ?_
      refine lv_iload hx hb dMain_keepSeen_13 (lv_at hl 5 rfl) ?_
      replace hf := g_bd hf
      obtain ⟨_, hi_3, hf⟩ := hf
      replace hf := g_bps hf
      obtain ⟨r_5, z_4, hz_4, hf⟩ := hf
      refine g_goq (g_rV (As := [.int i5b]) (rest := []) ⟨hx, hb, hml, hown, hts⟩ (mMain_findSecret l D A n _ _ a0b i5b _ hz_4) (cwV 1 hts (gi_V kw_170 kw_172 ks_Main_findSecret kw_1 kw_173) rfl rfl rfl ⟨rfl, hdMain_findSecret⟩ ⟨Nat.le_of_ble_eq_true rfl, Nat.le_of_ble_eq_true rfl⟩) hK hW hS hA (ci := 8) (T := T_Main) (N := 14) rfl hi_3 rfl hl.1 rfl (Nat.le_of_ble_eq_true rfl) dMain_keepSeen_15 ⟨Nat.le_of_ble_eq_true rfl, Nat.le_of_ble_eq_true rfl⟩) hS (fun H locs hW hS => ?_)
      refine g_astore (lv' := [(6, va_rf r_5), (0, .ref a0b), (1, .ref a1b), (2, .int i2b), (3, .int i3b), (4, .int i4b), (5, .int i5b)]) hx hb dMain_keepSeen_18 hl (by decide) rfl (fun _ hl1 => ?_)
      clear hl
      have hl := hl1
      clear hl1
      refine g_aload hx hb dMain_keepSeen_20 (lv_at hl 0 rfl) ?_
      cases r_5 with
      | none =>
        replace hf := g_n0 hf
        replace hl : lv_has _ 7 [(6, .null), (0, .ref a0b), (1, .ref a1b), (2, .int i2b), (3, .int i3b), (4, .int i4b), (5, .int i5b)] := hl
        refine W.eq (g2 := F0 m 22 _ [.null]) rfl ?_
        refine lv_ifnullN (tgt := 56) hx hb dMain_keepSeen_22 (by decide) ?_
        refine lv_iinc (v := (i5b + 1)) (lv' := [(5, .int (i5b + 1)), (6, .null), (0, .ref a0b), (1, .ref a1b), (2, .int i2b), (3, .int i3b), (4, .int i4b)]) hx hb dMain_keepSeen_56 hl (k := 6) rfl rfl (by decide) rfl (fun _ hl1 => ?_)
        clear hl
        have hl := hl1
        clear hl1
        refine lv_goto (tgt := 3) hx hb dMain_keepSeen_59 (by decide) ?_
        exact ih a0b a1b i2b i3b i4b (i5b + 1) _ _ _ _ hf hW hS (lv_sub hl [2, 3, 4, 5, 6, 0] rfl)
      | some a_6 =>
        replace hf := g_n1 hf
        replace hl : lv_has _ 7 [(6, .ref a_6), (0, .ref a0b), (1, .ref a1b), (2, .int i2b), (3, .int i3b), (4, .int i4b), (5, .int i5b)] := hl
        refine W.eq (g2 := F0 m 22 _ [.ref a_6]) rfl ?_
        refine lv_ifnull hx hb dMain_keepSeen_22 ?_
        refine lv_aload hx hb dMain_keepSeen_25 (lv_at hl 0 rfl) ?_
        replace hf := g_bd hf
        obtain ⟨v_7, hv_7, hf⟩ := hf
        refine g_getIN hx hb hts in_Secret hown hK hW (ci := 2) (C := "SecretRows$Secret") (T := T_Secret) (N := 7) rfl (k := 6) (by decide) (host := "SecretRows") kw_142 (fun _ h9 => h9) hv_7 dMain_keepSeen_27 ?_
        refine lv_if_ne (tgt := 56) hx hb dMain_keepSeen_30 (by decide) (fun c_8 => ?_) (fun c_8 => ?_)
        · replace hf := g_if c_8 hf
          refine lv_iinc (v := (i5b + 1)) (lv' := [(5, .int (i5b + 1)), (6, .ref a_6), (0, .ref a0b), (1, .ref a1b), (2, .int i2b), (3, .int i3b), (4, .int i4b)]) hx hb dMain_keepSeen_56 hl (k := 6) rfl rfl (by decide) rfl (fun _ hl1 => ?_)
          clear hl
          have hl := hl1
          clear hl1
          refine lv_goto (tgt := 3) hx hb dMain_keepSeen_59 (by decide) ?_
          exact ih a0b a1b i2b i3b i4b (i5b + 1) _ _ _ _ hf hW hS (lv_sub hl [2, 3, 4, 5, 6, 0] rfl)
        · replace hf := g_it c_8 hf
          refine lv_aload hx hb dMain_keepSeen_33 (lv_at hl 0 rfl) ?_
          refine lv_iload_n hx hb dMain_keepSeen_35 rfl (lv_at hl 3 rfl) ?_
          refine lv_iload_n hx hb dMain_keepSeen_36 rfl (lv_at hl 4 rfl) ?_
          refine lv_iload hx hb dMain_keepSeen_37 (lv_at hl 5 rfl) ?_
          replace hf := g_bd hf
          obtain ⟨_, hi_9, hf⟩ := hf
          replace hf := g_bps hf
          obtain ⟨v_11, z_10, hz_10, hf⟩ := hf
          refine g_goi (g_rV (As := [.int i2b, .int i3b, .int i4b]) (rest := []) ⟨hx, hb, hml, hown, hts⟩ (mSecret_isFor l D A n _ _ a_6 i2b i3b i4b _ hz_10) (cwV 3 hts (gi_V kw_328 kw_329 kw_330 kw_7 kw_331) rfl rfl rfl ⟨rfl, hdSecret_isFor⟩ ⟨Nat.le_of_ble_eq_true rfl, Nat.le_of_ble_eq_true rfl⟩) hK hW hS hA (ci := 2) (T := T_Secret) (N := 7) rfl hi_9 rfl hl.1 rfl (Nat.le_of_ble_eq_true rfl) dMain_keepSeen_39 ⟨Nat.le_of_ble_eq_true rfl, Nat.le_of_ble_eq_true rfl⟩) hS (fun H locs hW hS => ?_)
          refine lv_if_eq (tgt := 56) hx hb dMain_keepSeen_42 (by decide) (fun c_12 => ?_) (fun c_12 => ?_)
          · replace hf := g_it c_12 hf
            refine lv_iinc (v := (i5b + 1)) (lv' := [(5, .int (i5b + 1)), (6, .ref a_6), (0, .ref a0b), (1, .ref a1b), (2, .int i2b), (3, .int i3b), (4, .int i4b)]) hx hb dMain_keepSeen_56 hl (k := 6) rfl rfl (by decide) rfl (fun _ hl1 => ?_)
            clear hl
            have hl := hl1
            clear hl1
            refine lv_goto (tgt := 3) hx hb dMain_keepSeen_59 (by decide) ?_
            exact ih a0b a1b i2b i3b i4b (i5b + 1) _ _ _ _ hf hW hS (lv_sub hl [2, 3, 4, 5, 6, 0] rfl)
          · replace hf := g_if c_12 hf
            refine lv_aload_n hx hb dMain_keepSeen_45 rfl (lv_at hl 2 rfl) ?_
            refine lv_iload hx hb dMain_keepSeen_46 (lv_at hl 6 rfl) ?_
            refine lv_aload hx hb dMain_keepSeen_48 (lv_at hl 0 rfl) ?_
            replace hf := g_bd hf
            obtain ⟨r_13, hr_13, hf⟩ := hf
            refine g_getRN hx hb hts in_Secret hown hK hW (ci := 2) (C := "SecretRows$Secret") (T := T_Secret) (N := 7) rfl (k := 3) (by decide) (host := "SecretRows") kw_137 (fun _ h9 => h9) hr_13 dMain_keepSeen_50 ?_
            replace hf := g_bd hf
            obtain ⟨_, hi_14, hf⟩ := hf
            replace hf := g_bd hf
            obtain ⟨z_15, hz_15, hf⟩ := hf
            refine g_gov (g_rV (As := [.int i5b, va_rf r_13]) (rest := []) ⟨hx, hb, hml, hown, hts⟩ (mStep_keep l D A n _ _ a1b i5b r_13 hz_15) (cwV 2 hts (gi_V kw_332 kw_333 kw_334 kw_9 kw_335) rfl rfl rfl ⟨rfl, hdStep_keep⟩ ⟨Nat.le_of_ble_eq_true rfl, Nat.le_of_ble_eq_true rfl⟩) hK hW hS hA (ci := 4) (T := T_Step) (N := 2) rfl hi_14 rfl hl.1 rfl (Nat.le_of_ble_eq_true rfl) dMain_keepSeen_53 ⟨Nat.le_of_ble_eq_true rfl, Nat.le_of_ble_eq_true rfl⟩) hS (fun H locs hW hS => ?_)
            refine lv_iinc (v := (i5b + 1)) (lv' := [(5, .int (i5b + 1)), (6, .ref a_6), (0, .ref a0b), (1, .ref a1b), (2, .int i2b), (3, .int i3b), (4, .int i4b)]) hx hb dMain_keepSeen_56 hl (k := 6) rfl rfl (by decide) rfl (fun _ hl1 => ?_)
            clear hl
            have hl := hl1
            clear hl1
            refine lv_goto (tgt := 3) hx hb dMain_keepSeen_59 (by decide) ?_
            exact ih a0b a1b i2b i3b i4b (i5b + 1) _ _ _ _ hf hW hS (lv_sub hl [2, 3, 4, 5, 6, 0] rfl)
def fMain_keepSeen (n : Nat) (a0 : Nat) (a1 : Nat) (i2 : Int32) (i3 : Int32) (i4 : Int32) (z : gS) : Option (gS) :=
    fMain_keepSeen_L3 n n a0 a1 i2 i3 i4 0 z
set_option maxHeartbeats 4000000 in
set_option maxRecDepth 100000 in
theorem mMain_keepSeen (l : Launch) (D : va_G) (A : Nat → Prop) (n : Nat) (z z' : gS) (a0 : Nat) (a1 : Nat) (i2 : Int32) (i3 : Int32) (i4 : Int32) (hf : fMain_keepSeen n a0 a1 i2 i3 i4 z = some z') : Met l yMain_keepSeen wsMain_keepSeen ({ frames := 1, cells := 0, slots := 0, locals := 23 }) (g_P D vwCl gNN gOO A z [.ref a0, .ref a1, .int i2, .int i3, .int i4]) (g_Qv D vwCl A z') 0 0 A := by
  refine Met.ofW (cc := cMain_keepSeen) (maxL := 7) (ret := none) (by decide) rfl ?_
  intro p e s m args below meth c s₁ B hml hv
  obtain ⟨rfl, hW, hK, hA0⟩ := hv
  have C : g_C p s m meth c _ cMain_keepSeen 7 none "SecretRows" gW D vwCl gNN gOO A := ⟨B.exec, B.bytes, B.returns, hml, findClass_of_methodNamed B.named, fun w hw => atoms_spec (ws := wsMain_keepSeen) B.pre w (List.mem_cons_of_mem _ hw), B.notSynchronized, hK, fun q hq => hA0 q (by rw [← hW.1]; exact hq)⟩
  have hS : va_S A s.heap s.heap [] := va_S.rf
  have hl := lv_entry ([.ref a0, .ref a1, .int i2, .int i3, .int i4]) (n := 7) (Nat.le_of_ble_eq_true rfl)
  rw [lg_entry_eq]
  generalize (lg_sl ([.ref a0, .ref a1, .int i2, .int i3, .int i4]) ++ List.replicate (7 - (lg_sl ([.ref a0, .ref a1, .int i2, .int i3, .int i4])).length) Slot.unset).toArray = ls at hl ⊢
  have hl : lv_has ls 7 [(0, .ref a0), (1, .ref a1), (2, .int i2), (3, .int i3), (4, .int i4)] := hl
  obtain ⟨hx, hb, hr, hml, hown, hts, hlocks, hK, hA⟩ := id C
  unfold fMain_keepSeen at hf
  refine lv_iconst (v := 0) hx hb dMain_keepSeen_0 (by decide) ?_
  refine lv_istore (lv' := [(5, .int 0), (0, .ref a0), (1, .ref a1), (2, .int i2), (3, .int i3), (4, .int i4)]) hx hb dMain_keepSeen_1 hl (by decide) rfl (fun _ hl1 => ?_)
  clear hl
  have hl := hl1
  clear hl1
  exact bMain_keepSeen_3 C n n a0 a1 i2 i3 i4 0 _ _ _ _ hf hW hS (lv_sub hl [1, 2, 3, 4, 5, 0] rfl)

def fMain_step_J58 (n : Nat) (a0b : Nat) (a5b : Nat) (z : gS) : Option (Int32 × gS) :=
    (g_fR z a0b 8 1).bind fun r_21 =>
    (g_fI z a0b 8 7).bind fun v_22 =>
    r_21.bind fun a_23 =>
    (g_is z a5b 4).bind fun _ =>
    (g_stR z (.object "SecretRows$Step") a_23 v_22 (some a5b)).bind fun z_24 =>
    (g_fI z_24 a0b 8 7).bind fun v_25 =>
    (g_pF z_24 a0b 8 7 (.int (v_25 + 1))).bind fun z_26 =>
    (g_fI z_26 a0b 8 7).bind fun v_27 =>
    some ((v_27 - 1), z_26)
set_option maxHeartbeats 4000000 in
set_option maxRecDepth 100000 in
theorem bMain_step_58 {p : Program} {l : Launch} {e : Env} {s : State} {m : MethodId} {args : Array Value} {below : List Frame} {meth : Method} {c : Code} {D : va_G} {A : Nat → Prop} (C : g_C p s m meth c args cMain_step 6 (some .int) "SecretRows" gW D vwCl gNN gOO A) (n : Nat) {r : Int32} {z' : gS} : ∀ (a0b : Nat) (a5b : Nat) (z : gS) (H : Heap) (locs : List Loc) (ls : Array Slot), fMain_step_J58 n a0b a5b z = some (r, z') → g_W D vwCl A z s H → va_S A s.heap H locs → lv_has ls 6 [(0, .ref a0b), (5, .ref a5b)] → W p l e (headSpec wsMain_step ({ frames := 4, cells := 7, slots := 621, locals := 76 })).room s m args below meth c H locs 7 621 (MQ below (g_Qi D vwCl A r z') args s 7 621 A) (F0 m 58 ls []) := by
  obtain ⟨hx, hb, hr, hml, hown, hts, hlocks, hK, hA⟩ := id C
  intro a0b a5b z H locs ls hf hW hS hl
  unfold fMain_step_J58 at hf
  refine lv_aload_n hx hb dMain_step_58 rfl (lv_at hl 0 rfl) ?_
  replace hf := g_bd hf
  obtain ⟨r_21, hr_21, hf⟩ := hf
  refine g_getR hx hb hts in_Main hown hK hW (ci := 8) (C := "SecretRows") (T := T_Main) (N := 14) rfl (k := 1) (by decide) (hts _ kw_82) (fun _ h9 => h9) hr_21 dMain_step_59 ?_
  refine lv_aload_n hx hb dMain_step_62 rfl (lv_at hl 0 rfl) ?_
  replace hf := g_bd hf
  obtain ⟨v_22, hv_22, hf⟩ := hf
  refine g_getI hx hb hts in_Main hown hK hW (ci := 8) (C := "SecretRows") (T := T_Main) (N := 14) rfl (k := 7) (by decide) (hts _ kw_88) (fun _ h9 => h9) hv_22 dMain_step_63 ?_
  refine lv_aload hx hb dMain_step_66 (lv_at hl 1 rfl) ?_
  replace hf := g_bd hf
  obtain ⟨a_23, ea_23, hf⟩ := hf
  subst ea_23
  refine W.eq (g2 := F0 m 68 _ [.ref a5b, .int v_22, .ref a_23]) rfl ?_
  replace hf := g_bd hf
  obtain ⟨_, hz_24i, hf⟩ := hf
  replace hf := g_bd hf
  obtain ⟨z_24, hz_24, hf⟩ := hf
  refine g_ast_r (r := ("SecretRows$Step", T_Step, 2)) (ci := 4) hx hb hK hW hS rfl hz_24i hz_24 dMain_step_68 (fun H locs hW hS => ?_)
  refine lv_aload_n hx hb dMain_step_69 rfl (lv_at hl 0 rfl) ?_
  refine lv_dup hx hb dMain_step_70 rfl ?_
  replace hf := g_bd hf
  obtain ⟨v_25, hv_25, hf⟩ := hf
  refine g_getI hx hb hts in_Main hown hK hW (ci := 8) (C := "SecretRows") (T := T_Main) (N := 14) rfl (k := 7) (by decide) (hts _ kw_88) (fun _ h9 => h9) hv_25 dMain_step_71 ?_
  refine lv_iconst (v := 1) hx hb dMain_step_74 (by decide) ?_
  refine lv_iadd hx hb dMain_step_75 ?_
  replace hf := g_bd hf
  obtain ⟨z_26, hz_26, hf⟩ := hf
  refine g_put hx hb hts in_Main ty_Main tyok_Main nm_Main hown hK hW hS (ci := 8) (C := "SecretRows") (T := T_Main) (N := 14) rfl (k := 7) (by decide) (hts _ kw_88) (fun _ h9 => h9) rfl (ty := .int) (by decide +kernel) rfl rfl hz_26 dMain_step_76 (fun H locs hW hS => ?_)
  refine lv_aload_n hx hb dMain_step_79 rfl (lv_at hl 0 rfl) ?_
  replace hf := g_bd hf
  obtain ⟨v_27, hv_27, hf⟩ := hf
  refine g_getI hx hb hts in_Main hown hK hW (ci := 8) (C := "SecretRows") (T := T_Main) (N := 14) rfl (k := 7) (by decide) (hts _ kw_88) (fun _ h9 => h9) hv_27 dMain_step_80 ?_
  refine lv_iconst (v := 1) hx hb dMain_step_83 (by decide) ?_
  refine lv_isub hx hb dMain_step_84 ?_
  cases hf
  exact g_reti hx hb hr hlocks hW hS (Nat.le_of_ble_eq_true rfl) (Nat.le_of_ble_eq_true rfl) dMain_step_85
def fMain_step (n : Nat) (a0 : Nat) (i1 : Int32) (i2 : Int32) (i3 : Int32) (i4 : Int32) (z : gS) : Option (Int32 × gS) :=
    g_bp (fMain_isBit n i1 z) fun v_2 z_1 =>
    if v_2 = 0 then (
    some ((-1), z_1))
    else (
    g_bp (fMain_isBit n i2 z_1) fun v_5 z_4 =>
    if v_5 = 0 then (
    some ((-1), z_4))
    else (
    g_bp (fMain_isBit n i3 z_4) fun v_8 z_7 =>
    if v_8 = 0 then (
    some ((-1), z_7))
    else (
    (g_fI z_7 a0 8 7).bind fun v_10 =>
    (g_fR z_7 a0 8 1).bind fun r_11 =>
    r_11.bind fun a_12 =>
    (g_len z_7 a_12).bind fun v_13 =>
    if v_10 < v_13 then (
    g_bp (g_nwO z_7 4 [.null, .null]) fun a_15 z_16 =>
    (fStep_init n a_15 z_16).bind fun z_17 =>
    if i4 = 0 then (
    (g_is z_17 a0 8).bind fun _ =>
    (fMain_keepSeen n a0 a_15 i1 i2 i3 z_17).bind fun z_20 =>
    fMain_step_J58 n a0 a_15 z_20)
    else (
    fMain_step_J58 n a0 a_15 z_17))
    else (
    some ((-1), z_7)))))
set_option maxHeartbeats 4000000 in
set_option maxRecDepth 100000 in
theorem mMain_step (l : Launch) (D : va_G) (A : Nat → Prop) (n : Nat) (z z' : gS) (a0 : Nat) (i1 : Int32) (i2 : Int32) (i3 : Int32) (i4 : Int32) (r : Int32) (hf : fMain_step n a0 i1 i2 i3 i4 z = some (r, z')) : Met l yMain_step wsMain_step ({ frames := 4, cells := 7, slots := 621, locals := 76 }) (g_P D vwCl gNN gOO A z [.ref a0, .int i1, .int i2, .int i3, .int i4]) (g_Qi D vwCl A r z') 7 621 A := by
  refine Met.ofW (cc := cMain_step) (maxL := 6) (ret := (some .int)) (by decide) rfl ?_
  intro p e s m args below meth c s₁ B hml hv
  obtain ⟨rfl, hW, hK, hA0⟩ := hv
  have C : g_C p s m meth c _ cMain_step 6 (some .int) "SecretRows" gW D vwCl gNN gOO A := ⟨B.exec, B.bytes, B.returns, hml, findClass_of_methodNamed B.named, fun w hw => atoms_spec (ws := wsMain_step) B.pre w (List.mem_cons_of_mem _ hw), B.notSynchronized, hK, fun q hq => hA0 q (by rw [← hW.1]; exact hq)⟩
  have hS : va_S A s.heap s.heap [] := va_S.rf
  have hl := lv_entry ([.ref a0, .int i1, .int i2, .int i3, .int i4]) (n := 6) (Nat.le_of_ble_eq_true rfl)
  rw [lg_entry_eq]
  generalize (lg_sl ([.ref a0, .int i1, .int i2, .int i3, .int i4]) ++ List.replicate (6 - (lg_sl ([.ref a0, .int i1, .int i2, .int i3, .int i4])).length) Slot.unset).toArray = ls at hl ⊢
  have hl : lv_has ls 6 [(0, .ref a0), (1, .int i1), (2, .int i2), (3, .int i3), (4, .int i4)] := hl
  obtain ⟨hx, hb, hr, hml, hown, hts, hlocks, hK, hA⟩ := id C
  unfold fMain_step at hf
  refine lv_iload_n hx hb dMain_step_0 rfl (lv_at hl 1 rfl) ?_
  replace hf := g_bps hf
  obtain ⟨v_2, z_1, hz_1, hf⟩ := hf
  refine g_goi (g_rS (As := [.int i1]) (rest := []) ⟨hx, hb, hml, hown, hts⟩ (mMain_isBit l D A n _ _ i1 _ hz_1) (cwS 1 hts (gi_S kw_279 kw_280 kw_1 kw_281) rfl rfl rfl ⟨rfl, hdMain_isBit⟩ ⟨Nat.le_of_ble_eq_true rfl, Nat.le_of_ble_eq_true rfl⟩) hK hW hS hA rfl hl.1 rfl (Nat.le_of_ble_eq_true rfl) dMain_step_1 ⟨Nat.le_of_ble_eq_true rfl, Nat.le_of_ble_eq_true rfl⟩) hS (fun H locs hW hS => ?_)
  refine lv_if_eq (tgt := 33) hx hb dMain_step_4 (by decide) (fun c_3 => ?_) (fun c_3 => ?_)
  · replace hf := g_it c_3 hf
    refine lv_iconst (v := (-1)) hx hb dMain_step_33 (by decide) ?_
    cases hf
    exact g_reti hx hb hr hlocks hW hS (Nat.le_of_ble_eq_true rfl) (Nat.le_of_ble_eq_true rfl) dMain_step_34
  · replace hf := g_if c_3 hf
    refine lv_iload_n hx hb dMain_step_7 rfl (lv_at hl 2 rfl) ?_
    replace hf := g_bps hf
    obtain ⟨v_5, z_4, hz_4, hf⟩ := hf
    refine g_goi (g_rS (As := [.int i2]) (rest := []) ⟨hx, hb, hml, hown, hts⟩ (mMain_isBit l D A n _ _ i2 _ hz_4) (cwS 1 hts (gi_S kw_279 kw_280 kw_1 kw_281) rfl rfl rfl ⟨rfl, hdMain_isBit⟩ ⟨Nat.le_of_ble_eq_true rfl, Nat.le_of_ble_eq_true rfl⟩) hK hW hS hA rfl hl.1 rfl (Nat.le_of_ble_eq_true rfl) dMain_step_8 ⟨Nat.le_of_ble_eq_true rfl, Nat.le_of_ble_eq_true rfl⟩) hS (fun H locs hW hS => ?_)
    refine lv_if_eq (tgt := 33) hx hb dMain_step_11 (by decide) (fun c_6 => ?_) (fun c_6 => ?_)
    · replace hf := g_it c_6 hf
      refine lv_iconst (v := (-1)) hx hb dMain_step_33 (by decide) ?_
      cases hf
      exact g_reti hx hb hr hlocks hW hS (Nat.le_of_ble_eq_true rfl) (Nat.le_of_ble_eq_true rfl) dMain_step_34
    · replace hf := g_if c_6 hf
      refine lv_iload_n hx hb dMain_step_14 rfl (lv_at hl 3 rfl) ?_
      replace hf := g_bps hf
      obtain ⟨v_8, z_7, hz_7, hf⟩ := hf
      refine g_goi (g_rS (As := [.int i3]) (rest := []) ⟨hx, hb, hml, hown, hts⟩ (mMain_isBit l D A n _ _ i3 _ hz_7) (cwS 1 hts (gi_S kw_279 kw_280 kw_1 kw_281) rfl rfl rfl ⟨rfl, hdMain_isBit⟩ ⟨Nat.le_of_ble_eq_true rfl, Nat.le_of_ble_eq_true rfl⟩) hK hW hS hA rfl hl.1 rfl (Nat.le_of_ble_eq_true rfl) dMain_step_15 ⟨Nat.le_of_ble_eq_true rfl, Nat.le_of_ble_eq_true rfl⟩) hS (fun H locs hW hS => ?_)
      refine lv_if_eq (tgt := 33) hx hb dMain_step_18 (by decide) (fun c_9 => ?_) (fun c_9 => ?_)
      · replace hf := g_it c_9 hf
        refine lv_iconst (v := (-1)) hx hb dMain_step_33 (by decide) ?_
        cases hf
        exact g_reti hx hb hr hlocks hW hS (Nat.le_of_ble_eq_true rfl) (Nat.le_of_ble_eq_true rfl) dMain_step_34
      · replace hf := g_if c_9 hf
        refine lv_aload_n hx hb dMain_step_21 rfl (lv_at hl 0 rfl) ?_
        replace hf := g_bd hf
        obtain ⟨v_10, hv_10, hf⟩ := hf
        refine g_getI hx hb hts in_Main hown hK hW (ci := 8) (C := "SecretRows") (T := T_Main) (N := 14) rfl (k := 7) (by decide) (hts _ kw_88) (fun _ h9 => h9) hv_10 dMain_step_22 ?_
        refine lv_aload_n hx hb dMain_step_25 rfl (lv_at hl 0 rfl) ?_
        replace hf := g_bd hf
        obtain ⟨r_11, hr_11, hf⟩ := hf
        refine g_getR hx hb hts in_Main hown hK hW (ci := 8) (C := "SecretRows") (T := T_Main) (N := 14) rfl (k := 1) (by decide) (hts _ kw_82) (fun _ h9 => h9) hr_11 dMain_step_26 ?_
        replace hf := g_bd hf
        obtain ⟨a_12, ea_12, hf⟩ := hf
        subst ea_12
        refine W.eq (g2 := F0 m 29 _ [.ref a_12, .int v_10]) rfl ?_
        replace hf := g_bd hf
        obtain ⟨v_13, hv_13, hf⟩ := hf
        refine g_alen hx hb hK hW hv_13 dMain_step_29 ?_
        refine lv_icmp_lt (tgt := 35) hx hb dMain_step_30 (by decide) (fun c_14 => ?_) (fun c_14 => ?_)
        · replace hf := g_it c_14 hf
          replace hf := g_bps hf
          obtain ⟨a_15, z_16, hz_16, hf⟩ := hf
          refine g_newO hx hb hts in_Step ty_Step tyok_Step hown (hts _ kw_22) (hts _ kw_282) (hts _ kw_9) hK hW hS hA (ci := 4) (C := "SecretRows$Step") (T := T_Step) (N := 2) rfl (fun j hj => by rcases (show j = 0 ∨ j = 1 by omega) with rfl | rfl <;> rfl) (Nat.le_of_ble_eq_true rfl) (Nat.le_of_ble_eq_true rfl) hz_16 dMain_step_35 (fun H hW hS => ?_)
          refine W.cs (cells' := 1) (slots' := 2) rfl rfl ?_
          refine lv_dup hx hb dMain_step_38 rfl ?_
          replace hf := g_bd hf
          obtain ⟨z_17, hz_17, hf⟩ := hf
          refine g_gov (g_rI (As := []) (rest := [.ref a_15]) ⟨hx, hb, hml, hown, hts⟩ (mStep_init l D A n _ _ a_15 hz_17) (cwI 0 hts (gi_I kw_285) rfl rfl rfl (hts _ kw_9) (hts _ kw_283) (hts _ kw_284) rfl hdStep_init ⟨Nat.le_of_ble_eq_true rfl, Nat.le_of_ble_eq_true rfl⟩) hK hW hS hA rfl hl.1 rfl (Nat.le_of_ble_eq_true rfl) dMain_step_39 ⟨Nat.le_of_ble_eq_true rfl, Nat.le_of_ble_eq_true rfl⟩) hS (fun H locs hW hS => ?_)
          refine W.cs (cells' := 7) (slots' := 621) rfl rfl ?_
          refine lv_astore (lv' := [(5, .ref a_15), (0, .ref a0), (1, .int i1), (2, .int i2), (3, .int i3), (4, .int i4)]) hx hb dMain_step_42 hl (by decide) rfl (fun _ hl1 => ?_)
          clear hl
          have hl := hl1
          clear hl1
          refine lv_iload hx hb dMain_step_44 (lv_at hl 5 rfl) ?_
          refine lv_if_ne (tgt := 58) hx hb dMain_step_46 (by decide) (fun c_18 => ?_) (fun c_18 => ?_)
          · replace hf := g_if c_18 hf
            exact bMain_step_58 C n a0 a_15 _ _ _ _ hf hW hS (lv_sub hl [1, 0] rfl)
          · replace hf := g_it c_18 hf
            refine lv_aload_n hx hb dMain_step_49 rfl (lv_at hl 1 rfl) ?_
            refine lv_aload hx hb dMain_step_50 (lv_at hl 0 rfl) ?_
            refine lv_iload_n hx hb dMain_step_52 rfl (lv_at hl 2 rfl) ?_
            refine lv_iload_n hx hb dMain_step_53 rfl (lv_at hl 3 rfl) ?_
            refine lv_iload_n hx hb dMain_step_54 rfl (lv_at hl 4 rfl) ?_
            replace hf := g_bd hf
            obtain ⟨_, hi_19, hf⟩ := hf
            replace hf := g_bd hf
            obtain ⟨z_20, hz_20, hf⟩ := hf
            refine g_gov (g_rV (As := [.ref a_15, .int i1, .int i2, .int i3]) (rest := []) ⟨hx, hb, hml, hown, hts⟩ (mMain_keepSeen l D A n _ _ a0 a_15 i1 i2 i3 hz_20) (cwV 4 hts (gi_V kw_324 kw_326 ks_Main_keepSeen kw_1 kw_327) rfl rfl rfl ⟨rfl, hdMain_keepSeen⟩ ⟨Nat.le_of_ble_eq_true rfl, Nat.le_of_ble_eq_true rfl⟩) hK hW hS hA (ci := 8) (T := T_Main) (N := 14) rfl hi_19 rfl hl.1 rfl (Nat.le_of_ble_eq_true rfl) dMain_step_55 ⟨Nat.le_of_ble_eq_true rfl, Nat.le_of_ble_eq_true rfl⟩) hS (fun H locs hW hS => ?_)
            exact bMain_step_58 C n a0 a_15 _ _ _ _ hf hW hS (lv_sub hl [1, 0] rfl)
        · replace hf := g_if c_14 hf
          refine lv_iconst (v := (-1)) hx hb dMain_step_33 (by decide) ?_
          cases hf
          exact g_reti hx hb hr hlocks hW hS (Nat.le_of_ble_eq_true rfl) (Nat.le_of_ble_eq_true rfl) dMain_step_34

def fMain_findStep (n : Nat) (a0 : Nat) (i1 : Int32) (z : gS) : Option (Option Nat × gS) :=
    if i1 < 0 then (
    some (none, z))
    else (
    (g_fI z a0 8 7).bind fun v_2 =>
    if v_2 ≤ i1 then (
    some (none, z))
    else (
    (g_fR z a0 8 1).bind fun r_4 =>
    r_4.bind fun a_5 =>
    (g_len z a_5).bind fun v_6 =>
    if i1 < v_6 then (
    (g_fR z a0 8 1).bind fun r_8 =>
    r_8.bind fun a_9 =>
    (g_ldR z (.object "SecretRows$Step") a_9 i1).bind fun r_10 =>
    some (r_10, z))
    else (
    some (none, z))))
set_option maxHeartbeats 4000000 in
set_option maxRecDepth 100000 in
theorem mMain_findStep (l : Launch) (D : va_G) (A : Nat → Prop) (n : Nat) (z z' : gS) (a0 : Nat) (i1 : Int32) (r : Option Nat) (hf : fMain_findStep n a0 i1 z = some (r, z')) : Met l yMain_findStep wsMain_findStep ({ frames := 0, cells := 0, slots := 0, locals := 0 }) (g_P D vwCl gNN gOO A z [.ref a0, .int i1]) (g_Qq D vwCl A r z') 0 0 A := by
  refine Met.ofW (cc := cMain_findStep) (maxL := 2) (ret := (some (.object "SecretRows$Step"))) (by decide) rfl ?_
  intro p e s m args below meth c s₁ B hml hv
  obtain ⟨rfl, hW, hK, hA0⟩ := hv
  have C : g_C p s m meth c _ cMain_findStep 2 (some (.object "SecretRows$Step")) "SecretRows" gW D vwCl gNN gOO A := ⟨B.exec, B.bytes, B.returns, hml, findClass_of_methodNamed B.named, fun w hw => atoms_spec (ws := wsMain_findStep) B.pre w (List.mem_cons_of_mem _ hw), B.notSynchronized, hK, fun q hq => hA0 q (by rw [← hW.1]; exact hq)⟩
  have hS : va_S A s.heap s.heap [] := va_S.rf
  have hl := lv_entry ([.ref a0, .int i1]) (n := 2) (Nat.le_of_ble_eq_true rfl)
  rw [lg_entry_eq]
  generalize (lg_sl ([.ref a0, .int i1]) ++ List.replicate (2 - (lg_sl ([.ref a0, .int i1])).length) Slot.unset).toArray = ls at hl ⊢
  have hl : lv_has ls 2 [(0, .ref a0), (1, .int i1)] := hl
  obtain ⟨hx, hb, hr, hml, hown, hts, hlocks, hK, hA⟩ := id C
  unfold fMain_findStep at hf
  refine lv_iload_n hx hb dMain_findStep_0 rfl (lv_at hl 1 rfl) ?_
  refine lv_if_lt (tgt := 21) hx hb dMain_findStep_1 (by decide) (fun c_1 => ?_) (fun c_1 => ?_)
  · replace hf := g_it c_1 hf
    refine lv_null hx hb dMain_findStep_21 ?_
    refine lv_goto (tgt := 31) hx hb dMain_findStep_22 (by decide) ?_
    cases hf
    exact g_reta (v := none) hx hb hr (Or.inl ⟨_, rfl⟩) hlocks hW hS (Nat.le_of_ble_eq_true rfl) (Nat.le_of_ble_eq_true rfl) dMain_findStep_31
  · replace hf := g_if c_1 hf
    refine lv_iload_n hx hb dMain_findStep_4 rfl (lv_at hl 1 rfl) ?_
    refine lv_aload_n hx hb dMain_findStep_5 rfl (lv_at hl 0 rfl) ?_
    replace hf := g_bd hf
    obtain ⟨v_2, hv_2, hf⟩ := hf
    refine g_getI hx hb hts in_Main hown hK hW (ci := 8) (C := "SecretRows") (T := T_Main) (N := 14) rfl (k := 7) (by decide) (hts _ kw_88) (fun _ h9 => h9) hv_2 dMain_findStep_6 ?_
    refine lv_icmp_ge (tgt := 21) hx hb dMain_findStep_9 (by decide) (fun c_3 => ?_) (fun c_3 => ?_)
    · replace hf := g_it c_3 hf
      refine lv_null hx hb dMain_findStep_21 ?_
      refine lv_goto (tgt := 31) hx hb dMain_findStep_22 (by decide) ?_
      cases hf
      exact g_reta (v := none) hx hb hr (Or.inl ⟨_, rfl⟩) hlocks hW hS (Nat.le_of_ble_eq_true rfl) (Nat.le_of_ble_eq_true rfl) dMain_findStep_31
    · replace hf := g_if c_3 hf
      refine lv_iload_n hx hb dMain_findStep_12 rfl (lv_at hl 1 rfl) ?_
      refine lv_aload_n hx hb dMain_findStep_13 rfl (lv_at hl 0 rfl) ?_
      replace hf := g_bd hf
      obtain ⟨r_4, hr_4, hf⟩ := hf
      refine g_getR hx hb hts in_Main hown hK hW (ci := 8) (C := "SecretRows") (T := T_Main) (N := 14) rfl (k := 1) (by decide) (hts _ kw_82) (fun _ h9 => h9) hr_4 dMain_findStep_14 ?_
      replace hf := g_bd hf
      obtain ⟨a_5, ea_5, hf⟩ := hf
      subst ea_5
      refine W.eq (g2 := F0 m 17 _ [.ref a_5, .int i1]) rfl ?_
      replace hf := g_bd hf
      obtain ⟨v_6, hv_6, hf⟩ := hf
      refine g_alen hx hb hK hW hv_6 dMain_findStep_17 ?_
      refine lv_icmp_lt (tgt := 25) hx hb dMain_findStep_18 (by decide) (fun c_7 => ?_) (fun c_7 => ?_)
      · replace hf := g_it c_7 hf
        refine lv_aload_n hx hb dMain_findStep_25 rfl (lv_at hl 0 rfl) ?_
        replace hf := g_bd hf
        obtain ⟨r_8, hr_8, hf⟩ := hf
        refine g_getR hx hb hts in_Main hown hK hW (ci := 8) (C := "SecretRows") (T := T_Main) (N := 14) rfl (k := 1) (by decide) (hts _ kw_82) (fun _ h9 => h9) hr_8 dMain_findStep_26 ?_
        refine lv_iload_n hx hb dMain_findStep_29 rfl (lv_at hl 1 rfl) ?_
        replace hf := g_bd hf
        obtain ⟨a_9, ea_9, hf⟩ := hf
        subst ea_9
        refine W.eq (g2 := F0 m 30 _ [.int i1, .ref a_9]) rfl ?_
        replace hf := g_bd hf
        obtain ⟨r_10, hr_10, hf⟩ := hf
        refine g_ald_r hx hb hK hW hr_10 dMain_findStep_30 ?_
        cases hf
        exact g_reta (v := _) hx hb hr (Or.inl ⟨_, rfl⟩) hlocks hW hS (Nat.le_of_ble_eq_true rfl) (Nat.le_of_ble_eq_true rfl) dMain_findStep_31
      · replace hf := g_if c_7 hf
        refine lv_null hx hb dMain_findStep_21 ?_
        refine lv_goto (tgt := 31) hx hb dMain_findStep_22 (by decide) ?_
        cases hf
        exact g_reta (v := none) hx hb hr (Or.inl ⟨_, rfl⟩) hlocks hW hS (Nat.le_of_ble_eq_true rfl) (Nat.le_of_ble_eq_true rfl) dMain_findStep_31

def fStep_seenAt_L4 (n : Nat) : Nat → Nat → Int32 → Int32 → Int32 → gS → Option (Int32 × gS)
  | 0, _, _, _, _, _ => none
  | k + 1, a0b, i1b, i2b, i3b, z =>
    (g_fR z a0b 4 0).bind fun r_1 =>
    r_1.bind fun a_2 =>
    (g_len z a_2).bind fun v_3 =>
    if v_3 ≤ i3b then (
    some ((-1), z))
    else (
    (g_fR z a0b 4 0).bind fun r_5 =>
    r_5.bind fun a_6 =>
    (g_ldR z (.object "SecretRows$Value") a_6 i3b).bind fun r_7 =>
    g_n r_7 (
    fStep_seenAt_L4 n k a0b i1b i2b (i3b + 1) z) (fun a_8 =>
    if i2b = i1b then (
    some (i3b, z))
    else (
    fStep_seenAt_L4 n k a0b i1b (i2b + 1) (i3b + 1) z)))
set_option maxHeartbeats 4000000 in
set_option maxRecDepth 100000 in
theorem bStep_seenAt_4 {p : Program} {l : Launch} {e : Env} {s : State} {m : MethodId} {args : Array Value} {below : List Frame} {meth : Method} {c : Code} {D : va_G} {A : Nat → Prop} (C : g_C p s m meth c args cStep_seenAt 4 (some .int) "SecretRows$Step" gW D vwCl gNN gOO A) (n : Nat) {r : Int32} {z' : gS} : ∀ k : Nat, ∀ (a0b : Nat) (i1b : Int32) (i2b : Int32) (i3b : Int32) (z : gS) (H : Heap) (locs : List Loc) (ls : Array Slot), fStep_seenAt_L4 n k a0b i1b i2b i3b z = some (r, z') → g_W D vwCl A z s H → va_S A s.heap H locs → lv_has ls 4 [(0, .ref a0b), (1, .int i1b), (2, .int i2b), (3, .int i3b)] → W p l e (headSpec wsStep_seenAt ({ frames := 0, cells := 0, slots := 0, locals := 0 })).room s m args below meth c H locs 0 0 (MQ below (g_Qi D vwCl A r z') args s 0 0 A) (F0 m 4 ls []) := by
  obtain ⟨hx, hb, hr, hml, hown, hts, hlocks, hK, hA⟩ := id C
  intro k
  induction k with
  | zero =>
    intro a0b i1b i2b i3b z H locs ls hf
    have hf : (none : Option (Int32 × gS)) = some _ := hf
    cases hf
  | succ k ih =>
    intro a0b i1b i2b i3b z H locs ls hf hW hS hl
    rw [fStep_seenAt_L4] at hf
    refine lv_iload_n hx hb dStep_seenAt_4 rfl (lv_at hl 3 rfl) ?_
    refine lv_aload_n hx hb dStep_seenAt_5 rfl (lv_at hl 0 rfl) ?_
    replace hf := g_bd hf
    obtain ⟨r_1, hr_1, hf⟩ := hf
    refine g_getR hx hb hts in_Step hown hK hW (ci := 4) (C := "SecretRows$Step") (T := T_Step) (N := 2) rfl (k := 0) (by decide) (hts _ kw_316) (fun _ h9 => h9) hr_1 dStep_seenAt_6 ?_
    replace hf := g_bd hf
    obtain ⟨a_2, ea_2, hf⟩ := hf
    subst ea_2
    refine W.eq (g2 := F0 m 9 _ [.ref a_2, .int i3b]) rfl ?_
    replace hf := g_bd hf
    obtain ⟨v_3, hv_3, hf⟩ := hf
    refine g_alen hx hb hK hW hv_3 dStep_seenAt_9 ?_
    refine lv_icmp_ge (tgt := 38) hx hb dStep_seenAt_10 (by decide) (fun c_4 => ?_) (fun c_4 => ?_)
    · replace hf := g_it c_4 hf
      refine lv_iconst (v := (-1)) hx hb dStep_seenAt_38 (by decide) ?_
      cases hf
      exact g_reti hx hb hr hlocks hW hS (Nat.le_of_ble_eq_true rfl) (Nat.le_of_ble_eq_true rfl) dStep_seenAt_39
    · replace hf := g_if c_4 hf
      refine lv_aload_n hx hb dStep_seenAt_13 rfl (lv_at hl 0 rfl) ?_
      replace hf := g_bd hf
      obtain ⟨r_5, hr_5, hf⟩ := hf
      refine g_getR hx hb hts in_Step hown hK hW (ci := 4) (C := "SecretRows$Step") (T := T_Step) (N := 2) rfl (k := 0) (by decide) (hts _ kw_316) (fun _ h9 => h9) hr_5 dStep_seenAt_14 ?_
      refine lv_iload_n hx hb dStep_seenAt_17 rfl (lv_at hl 3 rfl) ?_
      replace hf := g_bd hf
      obtain ⟨a_6, ea_6, hf⟩ := hf
      subst ea_6
      refine W.eq (g2 := F0 m 18 _ [.int i3b, .ref a_6]) rfl ?_
      replace hf := g_bd hf
      obtain ⟨r_7, hr_7, hf⟩ := hf
      refine g_ald_r hx hb hK hW hr_7 dStep_seenAt_18 ?_
      cases r_7 with
      | none =>
        replace hf := g_n0 hf
        refine W.eq (g2 := F0 m 19 _ [.null]) rfl ?_
        refine lv_ifnullN (tgt := 32) hx hb dStep_seenAt_19 (by decide) ?_
        refine lv_iinc (v := (i3b + 1)) (lv' := [(3, .int (i3b + 1)), (0, .ref a0b), (1, .int i1b), (2, .int i2b)]) hx hb dStep_seenAt_32 hl (k := 3) rfl rfl (by decide) rfl (fun _ hl1 => ?_)
        clear hl
        have hl := hl1
        clear hl1
        refine lv_goto (tgt := 4) hx hb dStep_seenAt_35 (by decide) ?_
        exact ih a0b i1b i2b (i3b + 1) _ _ _ _ hf hW hS (lv_sub hl [1, 2, 3, 0] rfl)
      | some a_8 =>
        replace hf := g_n1 hf
        refine W.eq (g2 := F0 m 19 _ [.ref a_8]) rfl ?_
        refine lv_ifnull hx hb dStep_seenAt_19 ?_
        refine lv_iload_n hx hb dStep_seenAt_22 rfl (lv_at hl 2 rfl) ?_
        refine lv_iload_n hx hb dStep_seenAt_23 rfl (lv_at hl 1 rfl) ?_
        refine lv_icmp_ne (tgt := 29) hx hb dStep_seenAt_24 (by decide) (fun c_9 => ?_) (fun c_9 => ?_)
        · replace hf := g_if c_9 hf
          refine lv_iinc (v := (i2b + 1)) (lv' := [(2, .int (i2b + 1)), (0, .ref a0b), (1, .int i1b), (3, .int i3b)]) hx hb dStep_seenAt_29 hl (k := 2) rfl rfl (by decide) rfl (fun _ hl1 => ?_)
          clear hl
          have hl := hl1
          clear hl1
          refine lv_iinc (v := (i3b + 1)) (lv' := [(3, .int (i3b + 1)), (2, .int (i2b + 1)), (0, .ref a0b), (1, .int i1b)]) hx hb dStep_seenAt_32 hl (k := 3) rfl rfl (by decide) rfl (fun _ hl1 => ?_)
          clear hl
          have hl := hl1
          clear hl1
          refine lv_goto (tgt := 4) hx hb dStep_seenAt_35 (by decide) ?_
          exact ih a0b i1b (i2b + 1) (i3b + 1) _ _ _ _ hf hW hS (lv_sub hl [2, 3, 1, 0] rfl)
        · replace hf := g_it c_9 hf
          refine lv_iload_n hx hb dStep_seenAt_27 rfl (lv_at hl 3 rfl) ?_
          cases hf
          exact g_reti hx hb hr hlocks hW hS (Nat.le_of_ble_eq_true rfl) (Nat.le_of_ble_eq_true rfl) dStep_seenAt_28
def fStep_seenAt (n : Nat) (a0 : Nat) (i1 : Int32) (z : gS) : Option (Int32 × gS) :=
    fStep_seenAt_L4 n n a0 i1 0 0 z
set_option maxHeartbeats 4000000 in
set_option maxRecDepth 100000 in
theorem mStep_seenAt (l : Launch) (D : va_G) (A : Nat → Prop) (n : Nat) (z z' : gS) (a0 : Nat) (i1 : Int32) (r : Int32) (hf : fStep_seenAt n a0 i1 z = some (r, z')) : Met l yStep_seenAt wsStep_seenAt ({ frames := 0, cells := 0, slots := 0, locals := 0 }) (g_P D vwCl gNN gOO A z [.ref a0, .int i1]) (g_Qi D vwCl A r z') 0 0 A := by
  refine Met.ofW (cc := cStep_seenAt) (maxL := 4) (ret := (some .int)) (by decide) rfl ?_
  intro p e s m args below meth c s₁ B hml hv
  obtain ⟨rfl, hW, hK, hA0⟩ := hv
  have C : g_C p s m meth c _ cStep_seenAt 4 (some .int) "SecretRows$Step" gW D vwCl gNN gOO A := ⟨B.exec, B.bytes, B.returns, hml, findClass_of_methodNamed B.named, fun w hw => atoms_spec (ws := wsStep_seenAt) B.pre w (List.mem_cons_of_mem _ hw), B.notSynchronized, hK, fun q hq => hA0 q (by rw [← hW.1]; exact hq)⟩
  have hS : va_S A s.heap s.heap [] := va_S.rf
  have hl := lv_entry ([.ref a0, .int i1]) (n := 4) (Nat.le_of_ble_eq_true rfl)
  rw [lg_entry_eq]
  generalize (lg_sl ([.ref a0, .int i1]) ++ List.replicate (4 - (lg_sl ([.ref a0, .int i1])).length) Slot.unset).toArray = ls at hl ⊢
  have hl : lv_has ls 4 [(0, .ref a0), (1, .int i1)] := hl
  obtain ⟨hx, hb, hr, hml, hown, hts, hlocks, hK, hA⟩ := id C
  unfold fStep_seenAt at hf
  refine lv_iconst (v := 0) hx hb dStep_seenAt_0 (by decide) ?_
  refine lv_istore_n (lv' := [(2, .int 0), (0, .ref a0), (1, .int i1)]) hx hb dStep_seenAt_1 rfl hl (by decide) rfl (fun _ hl1 => ?_)
  clear hl
  have hl := hl1
  clear hl1
  refine lv_iconst (v := 0) hx hb dStep_seenAt_2 (by decide) ?_
  refine lv_istore_n (lv' := [(3, .int 0), (2, .int 0), (0, .ref a0), (1, .int i1)]) hx hb dStep_seenAt_3 rfl hl (by decide) rfl (fun _ hl1 => ?_)
  clear hl
  have hl := hl1
  clear hl1
  exact bStep_seenAt_4 C n n a0 i1 0 0 _ _ _ _ hf hW hS (lv_sub hl [2, 3, 1, 0] rfl)

def fMain_sees (n : Nat) (a0 : Nat) (i1 : Int32) (i2 : Int32) (z : gS) : Option (Int32 × gS) :=
    (g_is z a0 8).bind fun _ =>
    g_bp (fMain_findStep n a0 i1 z) fun r_3 z_2 =>
    g_n r_3 (
    some ((-1), z_2)) (fun a_4 =>
    (g_is z_2 a_4 4).bind fun _ =>
    g_bp (fStep_seenAt n a_4 i2 z_2) fun v_7 z_6 =>
    some (v_7, z_6))
set_option maxHeartbeats 4000000 in
set_option maxRecDepth 100000 in
theorem mMain_sees (l : Launch) (D : va_G) (A : Nat → Prop) (n : Nat) (z z' : gS) (a0 : Nat) (i1 : Int32) (i2 : Int32) (r : Int32) (hf : fMain_sees n a0 i1 i2 z = some (r, z')) : Met l yMain_sees wsMain_sees ({ frames := 1, cells := 0, slots := 0, locals := 23 }) (g_P D vwCl gNN gOO A z [.ref a0, .int i1, .int i2]) (g_Qi D vwCl A r z') 0 0 A := by
  refine Met.ofW (cc := cMain_sees) (maxL := 4) (ret := (some .int)) (by decide) rfl ?_
  intro p e s m args below meth c s₁ B hml hv
  obtain ⟨rfl, hW, hK, hA0⟩ := hv
  have C : g_C p s m meth c _ cMain_sees 4 (some .int) "SecretRows" gW D vwCl gNN gOO A := ⟨B.exec, B.bytes, B.returns, hml, findClass_of_methodNamed B.named, fun w hw => atoms_spec (ws := wsMain_sees) B.pre w (List.mem_cons_of_mem _ hw), B.notSynchronized, hK, fun q hq => hA0 q (by rw [← hW.1]; exact hq)⟩
  have hS : va_S A s.heap s.heap [] := va_S.rf
  have hl := lv_entry ([.ref a0, .int i1, .int i2]) (n := 4) (Nat.le_of_ble_eq_true rfl)
  rw [lg_entry_eq]
  generalize (lg_sl ([.ref a0, .int i1, .int i2]) ++ List.replicate (4 - (lg_sl ([.ref a0, .int i1, .int i2])).length) Slot.unset).toArray = ls at hl ⊢
  have hl : lv_has ls 4 [(0, .ref a0), (1, .int i1), (2, .int i2)] := hl
  obtain ⟨hx, hb, hr, hml, hown, hts, hlocks, hK, hA⟩ := id C
  unfold fMain_sees at hf
  refine lv_aload_n hx hb dMain_sees_0 rfl (lv_at hl 0 rfl) ?_
  refine lv_iload_n hx hb dMain_sees_1 rfl (lv_at hl 1 rfl) ?_
  replace hf := g_bd hf
  obtain ⟨_, hi_1, hf⟩ := hf
  replace hf := g_bps hf
  obtain ⟨r_3, z_2, hz_2, hf⟩ := hf
  refine g_goq (g_rV (As := [.int i1]) (rest := []) ⟨hx, hb, hml, hown, hts⟩ (mMain_findStep l D A n _ _ a0 i1 _ hz_2) (cwV 1 hts (gi_V kw_340 kw_342 ks_Main_findStep kw_1 kw_343) rfl rfl rfl ⟨rfl, hdMain_findStep⟩ ⟨Nat.le_of_ble_eq_true rfl, Nat.le_of_ble_eq_true rfl⟩) hK hW hS hA (ci := 8) (T := T_Main) (N := 14) rfl hi_1 rfl hl.1 rfl (Nat.le_of_ble_eq_true rfl) dMain_sees_2 ⟨Nat.le_of_ble_eq_true rfl, Nat.le_of_ble_eq_true rfl⟩) hS (fun H locs hW hS => ?_)
  refine g_astore_n (lv' := [(3, va_rf r_3), (0, .ref a0), (1, .int i1), (2, .int i2)]) hx hb dMain_sees_5 rfl hl (by decide) rfl (fun _ hl1 => ?_)
  clear hl
  have hl := hl1
  clear hl1
  refine g_aload_n hx hb dMain_sees_6 rfl (lv_at hl 0 rfl) ?_
  cases r_3 with
  | none =>
    replace hf := g_n0 hf
    replace hl : lv_has _ 4 [(3, .null), (0, .ref a0), (1, .int i1), (2, .int i2)] := hl
    refine W.eq (g2 := F0 m 7 _ [.null]) rfl ?_
    refine lv_ifnonnullN hx hb dMain_sees_7 ?_
    refine lv_iconst (v := (-1)) hx hb dMain_sees_10 (by decide) ?_
    refine lv_goto (tgt := 19) hx hb dMain_sees_11 (by decide) ?_
    cases hf
    exact g_reti hx hb hr hlocks hW hS (Nat.le_of_ble_eq_true rfl) (Nat.le_of_ble_eq_true rfl) dMain_sees_19
  | some a_4 =>
    replace hf := g_n1 hf
    replace hl : lv_has _ 4 [(3, .ref a_4), (0, .ref a0), (1, .int i1), (2, .int i2)] := hl
    refine W.eq (g2 := F0 m 7 _ [.ref a_4]) rfl ?_
    refine lv_ifnonnull (tgt := 14) hx hb dMain_sees_7 (by decide) ?_
    refine lv_aload_n hx hb dMain_sees_14 rfl (lv_at hl 0 rfl) ?_
    refine lv_iload_n hx hb dMain_sees_15 rfl (lv_at hl 3 rfl) ?_
    replace hf := g_bd hf
    obtain ⟨_, hi_5, hf⟩ := hf
    replace hf := g_bps hf
    obtain ⟨v_7, z_6, hz_6, hf⟩ := hf
    refine g_goi (g_rV (As := [.int i2]) (rest := []) ⟨hx, hb, hml, hown, hts⟩ (mStep_seenAt l D A n _ _ a_4 i2 _ hz_6) (cwV 1 hts (gi_V kw_344 kw_345 kw_346 kw_9 kw_347) rfl rfl rfl ⟨rfl, hdStep_seenAt⟩ ⟨Nat.le_of_ble_eq_true rfl, Nat.le_of_ble_eq_true rfl⟩) hK hW hS hA (ci := 4) (T := T_Step) (N := 2) rfl hi_5 rfl hl.1 rfl (Nat.le_of_ble_eq_true rfl) dMain_sees_16 ⟨Nat.le_of_ble_eq_true rfl, Nat.le_of_ble_eq_true rfl⟩) hS (fun H locs hW hS => ?_)
    cases hf
    exact g_reti hx hb hr hlocks hW hS (Nat.le_of_ble_eq_true rfl) (Nat.le_of_ble_eq_true rfl) dMain_sees_19

def fStep_keptOf (n : Nat) (a0 : Nat) (i1 : Int32) (z : gS) : Option (Option Nat × gS) :=
    if i1 < 0 then (
    some (none, z))
    else (
    (g_fR z a0 4 0).bind fun r_2 =>
    r_2.bind fun a_3 =>
    (g_len z a_3).bind fun v_4 =>
    if i1 < v_4 then (
    (g_fR z a0 4 0).bind fun r_6 =>
    r_6.bind fun a_7 =>
    (g_ldR z (.object "SecretRows$Value") a_7 i1).bind fun r_8 =>
    some (r_8, z))
    else (
    some (none, z)))
set_option maxHeartbeats 4000000 in
set_option maxRecDepth 100000 in
theorem mStep_keptOf (l : Launch) (D : va_G) (A : Nat → Prop) (n : Nat) (z z' : gS) (a0 : Nat) (i1 : Int32) (r : Option Nat) (hf : fStep_keptOf n a0 i1 z = some (r, z')) : Met l yStep_keptOf wsStep_keptOf ({ frames := 0, cells := 0, slots := 0, locals := 0 }) (g_P D vwCl gNN gOO A z [.ref a0, .int i1]) (g_Qq D vwCl A r z') 0 0 A := by
  refine Met.ofW (cc := cStep_keptOf) (maxL := 2) (ret := (some (.object "SecretRows$Value"))) (by decide) rfl ?_
  intro p e s m args below meth c s₁ B hml hv
  obtain ⟨rfl, hW, hK, hA0⟩ := hv
  have C : g_C p s m meth c _ cStep_keptOf 2 (some (.object "SecretRows$Value")) "SecretRows$Step" gW D vwCl gNN gOO A := ⟨B.exec, B.bytes, B.returns, hml, findClass_of_methodNamed B.named, fun w hw => atoms_spec (ws := wsStep_keptOf) B.pre w (List.mem_cons_of_mem _ hw), B.notSynchronized, hK, fun q hq => hA0 q (by rw [← hW.1]; exact hq)⟩
  have hS : va_S A s.heap s.heap [] := va_S.rf
  have hl := lv_entry ([.ref a0, .int i1]) (n := 2) (Nat.le_of_ble_eq_true rfl)
  rw [lg_entry_eq]
  generalize (lg_sl ([.ref a0, .int i1]) ++ List.replicate (2 - (lg_sl ([.ref a0, .int i1])).length) Slot.unset).toArray = ls at hl ⊢
  have hl : lv_has ls 2 [(0, .ref a0), (1, .int i1)] := hl
  obtain ⟨hx, hb, hr, hml, hown, hts, hlocks, hK, hA⟩ := id C
  unfold fStep_keptOf at hf
  refine lv_iload_n hx hb dStep_keptOf_0 rfl (lv_at hl 1 rfl) ?_
  refine lv_if_lt (tgt := 13) hx hb dStep_keptOf_1 (by decide) (fun c_1 => ?_) (fun c_1 => ?_)
  · replace hf := g_it c_1 hf
    refine lv_null hx hb dStep_keptOf_13 ?_
    refine lv_goto (tgt := 23) hx hb dStep_keptOf_14 (by decide) ?_
    cases hf
    exact g_reta (v := none) hx hb hr (Or.inl ⟨_, rfl⟩) hlocks hW hS (Nat.le_of_ble_eq_true rfl) (Nat.le_of_ble_eq_true rfl) dStep_keptOf_23
  · replace hf := g_if c_1 hf
    refine lv_iload_n hx hb dStep_keptOf_4 rfl (lv_at hl 1 rfl) ?_
    refine lv_aload_n hx hb dStep_keptOf_5 rfl (lv_at hl 0 rfl) ?_
    replace hf := g_bd hf
    obtain ⟨r_2, hr_2, hf⟩ := hf
    refine g_getR hx hb hts in_Step hown hK hW (ci := 4) (C := "SecretRows$Step") (T := T_Step) (N := 2) rfl (k := 0) (by decide) (hts _ kw_316) (fun _ h9 => h9) hr_2 dStep_keptOf_6 ?_
    replace hf := g_bd hf
    obtain ⟨a_3, ea_3, hf⟩ := hf
    subst ea_3
    refine W.eq (g2 := F0 m 9 _ [.ref a_3, .int i1]) rfl ?_
    replace hf := g_bd hf
    obtain ⟨v_4, hv_4, hf⟩ := hf
    refine g_alen hx hb hK hW hv_4 dStep_keptOf_9 ?_
    refine lv_icmp_lt (tgt := 17) hx hb dStep_keptOf_10 (by decide) (fun c_5 => ?_) (fun c_5 => ?_)
    · replace hf := g_it c_5 hf
      refine lv_aload_n hx hb dStep_keptOf_17 rfl (lv_at hl 0 rfl) ?_
      replace hf := g_bd hf
      obtain ⟨r_6, hr_6, hf⟩ := hf
      refine g_getR hx hb hts in_Step hown hK hW (ci := 4) (C := "SecretRows$Step") (T := T_Step) (N := 2) rfl (k := 0) (by decide) (hts _ kw_316) (fun _ h9 => h9) hr_6 dStep_keptOf_18 ?_
      refine lv_iload_n hx hb dStep_keptOf_21 rfl (lv_at hl 1 rfl) ?_
      replace hf := g_bd hf
      obtain ⟨a_7, ea_7, hf⟩ := hf
      subst ea_7
      refine W.eq (g2 := F0 m 22 _ [.int i1, .ref a_7]) rfl ?_
      replace hf := g_bd hf
      obtain ⟨r_8, hr_8, hf⟩ := hf
      refine g_ald_r hx hb hK hW hr_8 dStep_keptOf_22 ?_
      cases hf
      exact g_reta (v := _) hx hb hr (Or.inl ⟨_, rfl⟩) hlocks hW hS (Nat.le_of_ble_eq_true rfl) (Nat.le_of_ble_eq_true rfl) dStep_keptOf_23
    · replace hf := g_if c_5 hf
      refine lv_null hx hb dStep_keptOf_13 ?_
      refine lv_goto (tgt := 23) hx hb dStep_keptOf_14 (by decide) ?_
      cases hf
      exact g_reta (v := none) hx hb hr (Or.inl ⟨_, rfl⟩) hlocks hW hS (Nat.le_of_ble_eq_true rfl) (Nat.le_of_ble_eq_true rfl) dStep_keptOf_23
