theorem dText_isLike_0 : decode cText_isLike 0 = .ok (.aload_n 0, 1) := by decide +kernel
theorem dText_isLike_1 : decode cText_isLike 1 = .ok (.getfield 21, 3) := by decide +kernel
theorem dText_isLike_4 : decode cText_isLike 4 = .ok (.aload_n 1, 1) := by decide +kernel
theorem dText_isLike_5 : decode cText_isLike 5 = .ok (.getfield 21, 3) := by decide +kernel
theorem dText_isLike_8 : decode cText_isLike 8 = .ok (.if_icmp .ne 16, 3) := by decide +kernel
theorem dText_isLike_11 : decode cText_isLike 11 = .ok (.aload_n 0, 1) := by decide +kernel
theorem dText_isLike_12 : decode cText_isLike 12 = .ok (.aload_n 1, 1) := by decide +kernel
theorem dText_isLike_13 : decode cText_isLike 13 = .ok (.iconst 0, 1) := by decide +kernel
theorem dText_isLike_14 : decode cText_isLike 14 = .ok (.invokevirtual 33, 3) := by decide +kernel
theorem dText_isLike_17 : decode cText_isLike 17 = .ok (.ifCond .eq 7, 3) := by decide +kernel
theorem dText_isLike_20 : decode cText_isLike 20 = .ok (.iconst 1, 1) := by decide +kernel
theorem dText_isLike_21 : decode cText_isLike 21 = .ok (.goto 4, 3) := by decide +kernel
theorem dText_isLike_24 : decode cText_isLike 24 = .ok (.iconst 0, 1) := by decide +kernel
theorem dText_isLike_25 : decode cText_isLike 25 = .ok (.ireturn, 1) := by decide +kernel
theorem dSecret_has_0 : decode cSecret_has 0 = .ok (.aload_n 0, 1) := by decide +kernel
theorem dSecret_has_1 : decode cSecret_has 1 = .ok (.getfield 19, 3) := by decide +kernel
theorem dSecret_has_4 : decode cSecret_has 4 = .ok (.ifnull 17, 3) := by decide +kernel
theorem dSecret_has_7 : decode cSecret_has 7 = .ok (.aload_n 0, 1) := by decide +kernel
theorem dSecret_has_8 : decode cSecret_has 8 = .ok (.getfield 19, 3) := by decide +kernel
theorem dSecret_has_11 : decode cSecret_has 11 = .ok (.getfield 29, 3) := by decide +kernel
theorem dSecret_has_14 : decode cSecret_has 14 = .ok (.aload_n 1, 1) := by decide +kernel
theorem dSecret_has_15 : decode cSecret_has 15 = .ok (.invokevirtual 35, 3) := by decide +kernel
theorem dSecret_has_18 : decode cSecret_has 18 = .ok (.ifCond .ne 24, 3) := by decide +kernel
theorem dSecret_has_21 : decode cSecret_has 21 = .ok (.aload_n 0, 1) := by decide +kernel
theorem dSecret_has_22 : decode cSecret_has 22 = .ok (.getfield 23, 3) := by decide +kernel
theorem dSecret_has_25 : decode cSecret_has 25 = .ok (.ifnull 21, 3) := by decide +kernel
theorem dSecret_has_28 : decode cSecret_has 28 = .ok (.aload_n 0, 1) := by decide +kernel
theorem dSecret_has_29 : decode cSecret_has 29 = .ok (.getfield 23, 3) := by decide +kernel
theorem dSecret_has_32 : decode cSecret_has 32 = .ok (.getfield 29, 3) := by decide +kernel
theorem dSecret_has_35 : decode cSecret_has 35 = .ok (.aload_n 1, 1) := by decide +kernel
theorem dSecret_has_36 : decode cSecret_has 36 = .ok (.invokevirtual 35, 3) := by decide +kernel
theorem dSecret_has_39 : decode cSecret_has 39 = .ok (.ifCond .eq 7, 3) := by decide +kernel
theorem dSecret_has_42 : decode cSecret_has 42 = .ok (.iconst 1, 1) := by decide +kernel
theorem dSecret_has_43 : decode cSecret_has 43 = .ok (.goto 4, 3) := by decide +kernel
theorem dSecret_has_46 : decode cSecret_has 46 = .ok (.iconst 0, 1) := by decide +kernel
theorem dSecret_has_47 : decode cSecret_has 47 = .ok (.ireturn, 1) := by decide +kernel
theorem dMain_tapeIsHad_0 : decode cMain_tapeIsHad 0 = .ok (.iconst 0, 1) := by decide +kernel
theorem dMain_tapeIsHad_1 : decode cMain_tapeIsHad 1 = .ok (.istore_n 1, 1) := by decide +kernel
theorem dMain_tapeIsHad_2 : decode cMain_tapeIsHad 2 = .ok (.iload_n 1, 1) := by decide +kernel
theorem dMain_tapeIsHad_3 : decode cMain_tapeIsHad 3 = .ok (.aload_n 0, 1) := by decide +kernel
theorem dMain_tapeIsHad_4 : decode cMain_tapeIsHad 4 = .ok (.getfield 60, 3) := by decide +kernel
theorem dMain_tapeIsHad_7 : decode cMain_tapeIsHad 7 = .ok (.if_icmp .ge 32, 3) := by decide +kernel
theorem dMain_tapeIsHad_10 : decode cMain_tapeIsHad 10 = .ok (.aload_n 0, 1) := by decide +kernel
theorem dMain_tapeIsHad_11 : decode cMain_tapeIsHad 11 = .ok (.iload_n 1, 1) := by decide +kernel
theorem dMain_tapeIsHad_12 : decode cMain_tapeIsHad 12 = .ok (.invokevirtual 70, 3) := by decide +kernel
theorem dMain_tapeIsHad_15 : decode cMain_tapeIsHad 15 = .ok (.astore_n 2, 1) := by decide +kernel
theorem dMain_tapeIsHad_16 : decode cMain_tapeIsHad 16 = .ok (.aload_n 2, 1) := by decide +kernel
theorem dMain_tapeIsHad_17 : decode cMain_tapeIsHad 17 = .ok (.ifnull 16, 3) := by decide +kernel
theorem dMain_tapeIsHad_20 : decode cMain_tapeIsHad 20 = .ok (.aload_n 2, 1) := by decide +kernel
theorem dMain_tapeIsHad_21 : decode cMain_tapeIsHad 21 = .ok (.aload_n 0, 1) := by decide +kernel
theorem dMain_tapeIsHad_22 : decode cMain_tapeIsHad 22 = .ok (.getfield 39, 3) := by decide +kernel
theorem dMain_tapeIsHad_25 : decode cMain_tapeIsHad 25 = .ok (.invokevirtual 219, 3) := by decide +kernel
theorem dMain_tapeIsHad_28 : decode cMain_tapeIsHad 28 = .ok (.ifCond .eq 5, 3) := by decide +kernel
theorem dMain_tapeIsHad_31 : decode cMain_tapeIsHad 31 = .ok (.iconst 1, 1) := by decide +kernel
theorem dMain_tapeIsHad_32 : decode cMain_tapeIsHad 32 = .ok (.ireturn, 1) := by decide +kernel
theorem dMain_tapeIsHad_33 : decode cMain_tapeIsHad 33 = .ok (.iinc 1 1, 3) := by decide +kernel
theorem dMain_tapeIsHad_36 : decode cMain_tapeIsHad 36 = .ok (.goto (-34), 3) := by decide +kernel
theorem dMain_tapeIsHad_39 : decode cMain_tapeIsHad 39 = .ok (.iconst 0, 1) := by decide +kernel
theorem dMain_tapeIsHad_40 : decode cMain_tapeIsHad 40 = .ok (.ireturn, 1) := by decide +kernel
theorem dText_addAll_0 : decode cText_addAll 0 = .ok (.iconst 0, 1) := by decide +kernel
theorem dText_addAll_1 : decode cText_addAll 1 = .ok (.istore_n 2, 1) := by decide +kernel
theorem dText_addAll_2 : decode cText_addAll 2 = .ok (.iload_n 2, 1) := by decide +kernel
theorem dText_addAll_3 : decode cText_addAll 3 = .ok (.aload_n 1, 1) := by decide +kernel
theorem dText_addAll_4 : decode cText_addAll 4 = .ok (.getfield 21, 3) := by decide +kernel
theorem dText_addAll_7 : decode cText_addAll 7 = .ok (.if_icmp .ge 19, 3) := by decide +kernel
theorem dText_addAll_10 : decode cText_addAll 10 = .ok (.aload_n 0, 1) := by decide +kernel
theorem dText_addAll_11 : decode cText_addAll 11 = .ok (.aload_n 1, 1) := by decide +kernel
theorem dText_addAll_12 : decode cText_addAll 12 = .ok (.iload_n 2, 1) := by decide +kernel
theorem dText_addAll_13 : decode cText_addAll 13 = .ok (.invokevirtual 25, 3) := by decide +kernel
theorem dText_addAll_16 : decode cText_addAll 16 = .ok (.invokevirtual 29, 3) := by decide +kernel
theorem dText_addAll_19 : decode cText_addAll 19 = .ok (.pop, 1) := by decide +kernel
theorem dText_addAll_20 : decode cText_addAll 20 = .ok (.iinc 2 1, 3) := by decide +kernel
theorem dText_addAll_23 : decode cText_addAll 23 = .ok (.goto (-21), 3) := by decide +kernel
theorem dText_addAll_26 : decode cText_addAll 26 = .ok (.return_, 1) := by decide +kernel
theorem dValue_turned_0 : decode cValue_turned 0 = .ok (.new 13, 3) := by decide +kernel
theorem dValue_turned_3 : decode cValue_turned 3 = .ok (.dup, 1) := by decide +kernel
theorem dValue_turned_4 : decode cValue_turned 4 = .ok (.aload_n 0, 1) := by decide +kernel
theorem dValue_turned_5 : decode cValue_turned 5 = .ok (.invokevirtual 15, 3) := by decide +kernel
theorem dValue_turned_8 : decode cValue_turned 8 = .ok (.invokespecial 19, 3) := by decide +kernel
theorem dValue_turned_11 : decode cValue_turned 11 = .ok (.astore_n 1, 1) := by decide +kernel
theorem dValue_turned_12 : decode cValue_turned 12 = .ok (.aload_n 0, 1) := by decide +kernel
theorem dValue_turned_13 : decode cValue_turned 13 = .ok (.invokevirtual 15, 3) := by decide +kernel
theorem dValue_turned_16 : decode cValue_turned 16 = .ok (.iconst 1, 1) := by decide +kernel
theorem dValue_turned_17 : decode cValue_turned 17 = .ok (.isub, 1) := by decide +kernel
theorem dValue_turned_18 : decode cValue_turned 18 = .ok (.istore_n 2, 1) := by decide +kernel
theorem dValue_turned_19 : decode cValue_turned 19 = .ok (.iload_n 2, 1) := by decide +kernel
theorem dValue_turned_20 : decode cValue_turned 20 = .ok (.ifCond .lt 19, 3) := by decide +kernel
theorem dValue_turned_23 : decode cValue_turned 23 = .ok (.aload_n 1, 1) := by decide +kernel
theorem dValue_turned_24 : decode cValue_turned 24 = .ok (.aload_n 0, 1) := by decide +kernel
theorem dValue_turned_25 : decode cValue_turned 25 = .ok (.iload_n 2, 1) := by decide +kernel
theorem dValue_turned_26 : decode cValue_turned 26 = .ok (.invokevirtual 43, 3) := by decide +kernel
theorem dValue_turned_29 : decode cValue_turned 29 = .ok (.invokevirtual 47, 3) := by decide +kernel
theorem dValue_turned_32 : decode cValue_turned 32 = .ok (.pop, 1) := by decide +kernel
theorem dValue_turned_33 : decode cValue_turned 33 = .ok (.iinc 2 (-1), 3) := by decide +kernel
theorem dValue_turned_36 : decode cValue_turned 36 = .ok (.goto (-17), 3) := by decide +kernel
theorem dValue_turned_39 : decode cValue_turned 39 = .ok (.aload_n 1, 1) := by decide +kernel
theorem dValue_turned_40 : decode cValue_turned 40 = .ok (.areturn, 1) := by decide +kernel
theorem dValue_digit_0 : decode cValue_digit 0 = .ok (.iload_n 0, 1) := by decide +kernel
theorem dValue_digit_1 : decode cValue_digit 1 = .ok (.bipush 10, 2) := by decide +kernel
theorem dValue_digit_3 : decode cValue_digit 3 = .ok (.if_icmp .ge 10, 3) := by decide +kernel
theorem dValue_digit_6 : decode cValue_digit 6 = .ok (.bipush 48, 2) := by decide +kernel
theorem dValue_digit_8 : decode cValue_digit 8 = .ok (.iload_n 0, 1) := by decide +kernel
theorem dValue_digit_9 : decode cValue_digit 9 = .ok (.iadd, 1) := by decide +kernel
theorem dValue_digit_10 : decode cValue_digit 10 = .ok (.goto 10, 3) := by decide +kernel
theorem dValue_digit_13 : decode cValue_digit 13 = .ok (.bipush 97, 2) := by decide +kernel
theorem dValue_digit_15 : decode cValue_digit 15 = .ok (.iload_n 0, 1) := by decide +kernel
theorem dValue_digit_16 : decode cValue_digit 16 = .ok (.iadd, 1) := by decide +kernel
theorem dValue_digit_17 : decode cValue_digit 17 = .ok (.bipush 10, 2) := by decide +kernel
theorem dValue_digit_19 : decode cValue_digit 19 = .ok (.isub, 1) := by decide +kernel
theorem dValue_digit_20 : decode cValue_digit 20 = .ok (.ireturn, 1) := by decide +kernel
theorem dValue_codesOf_0 : decode cValue_codesOf 0 = .ok (.new 13, 3) := by decide +kernel
theorem dValue_codesOf_3 : decode cValue_codesOf 3 = .ok (.dup, 1) := by decide +kernel
theorem dValue_codesOf_4 : decode cValue_codesOf 4 = .ok (.iconst 2, 1) := by decide +kernel
theorem dValue_codesOf_5 : decode cValue_codesOf 5 = .ok (.aload_n 0, 1) := by decide +kernel
theorem dValue_codesOf_6 : decode cValue_codesOf 6 = .ok (.invokevirtual 15, 3) := by decide +kernel
theorem dValue_codesOf_9 : decode cValue_codesOf 9 = .ok (.imul, 1) := by decide +kernel
theorem dValue_codesOf_10 : decode cValue_codesOf 10 = .ok (.invokespecial 19, 3) := by decide +kernel
theorem dValue_codesOf_13 : decode cValue_codesOf 13 = .ok (.astore_n 1, 1) := by decide +kernel
theorem dValue_codesOf_14 : decode cValue_codesOf 14 = .ok (.iconst 0, 1) := by decide +kernel
theorem dValue_codesOf_15 : decode cValue_codesOf 15 = .ok (.istore_n 2, 1) := by decide +kernel
theorem dValue_codesOf_16 : decode cValue_codesOf 16 = .ok (.iload_n 2, 1) := by decide +kernel
theorem dValue_codesOf_17 : decode cValue_codesOf 17 = .ok (.aload_n 0, 1) := by decide +kernel
theorem dValue_codesOf_18 : decode cValue_codesOf 18 = .ok (.invokevirtual 15, 3) := by decide +kernel
theorem dValue_codesOf_21 : decode cValue_codesOf 21 = .ok (.if_icmp .ge 40, 3) := by decide +kernel
theorem dValue_codesOf_24 : decode cValue_codesOf 24 = .ok (.aload_n 1, 1) := by decide +kernel
theorem dValue_codesOf_25 : decode cValue_codesOf 25 = .ok (.aload_n 0, 1) := by decide +kernel
theorem dValue_codesOf_26 : decode cValue_codesOf 26 = .ok (.iload_n 2, 1) := by decide +kernel
theorem dValue_codesOf_27 : decode cValue_codesOf 27 = .ok (.invokevirtual 43, 3) := by decide +kernel
theorem dValue_codesOf_30 : decode cValue_codesOf 30 = .ok (.iconst 4, 1) := by decide +kernel
theorem dValue_codesOf_31 : decode cValue_codesOf 31 = .ok (.ishr, 1) := by decide +kernel
theorem dValue_codesOf_32 : decode cValue_codesOf 32 = .ok (.invokestatic 51, 3) := by decide +kernel
theorem dValue_codesOf_35 : decode cValue_codesOf 35 = .ok (.invokevirtual 47, 3) := by decide +kernel
theorem dValue_codesOf_38 : decode cValue_codesOf 38 = .ok (.pop, 1) := by decide +kernel
theorem dValue_codesOf_39 : decode cValue_codesOf 39 = .ok (.aload_n 1, 1) := by decide +kernel
theorem dValue_codesOf_40 : decode cValue_codesOf 40 = .ok (.aload_n 0, 1) := by decide +kernel
theorem dValue_codesOf_41 : decode cValue_codesOf 41 = .ok (.iload_n 2, 1) := by decide +kernel
theorem dValue_codesOf_42 : decode cValue_codesOf 42 = .ok (.invokevirtual 43, 3) := by decide +kernel
theorem dValue_codesOf_45 : decode cValue_codesOf 45 = .ok (.bipush 15, 2) := by decide +kernel
theorem dValue_codesOf_47 : decode cValue_codesOf 47 = .ok (.iand, 1) := by decide +kernel
theorem dValue_codesOf_48 : decode cValue_codesOf 48 = .ok (.invokestatic 51, 3) := by decide +kernel
theorem dValue_codesOf_51 : decode cValue_codesOf 51 = .ok (.invokevirtual 47, 3) := by decide +kernel
theorem dValue_codesOf_54 : decode cValue_codesOf 54 = .ok (.pop, 1) := by decide +kernel
theorem dValue_codesOf_55 : decode cValue_codesOf 55 = .ok (.iinc 2 1, 3) := by decide +kernel
theorem dValue_codesOf_58 : decode cValue_codesOf 58 = .ok (.goto (-42), 3) := by decide +kernel
theorem dValue_codesOf_61 : decode cValue_codesOf 61 = .ok (.aload_n 1, 1) := by decide +kernel
theorem dValue_codesOf_62 : decode cValue_codesOf 62 = .ok (.areturn, 1) := by decide +kernel
theorem dValue_init_0 : decode cValue_init 0 = .ok (.aload_n 0, 1) := by decide +kernel
theorem dValue_init_1 : decode cValue_init 1 = .ok (.invokespecial 1, 3) := by decide +kernel
theorem dValue_init_4 : decode cValue_init 4 = .ok (.aload_n 0, 1) := by decide +kernel
theorem dValue_init_5 : decode cValue_init 5 = .ok (.iload_n 1, 1) := by decide +kernel
theorem dValue_init_6 : decode cValue_init 6 = .ok (.putfield 7, 3) := by decide +kernel
theorem dValue_init_9 : decode cValue_init 9 = .ok (.aload_n 0, 1) := by decide +kernel
theorem dValue_init_10 : decode cValue_init 10 = .ok (.new 13, 3) := by decide +kernel
theorem dValue_init_13 : decode cValue_init 13 = .ok (.dup, 1) := by decide +kernel
theorem dValue_init_14 : decode cValue_init 14 = .ok (.aload_n 2, 1) := by decide +kernel
theorem dValue_init_15 : decode cValue_init 15 = .ok (.invokevirtual 15, 3) := by decide +kernel
theorem dValue_init_18 : decode cValue_init 18 = .ok (.invokespecial 19, 3) := by decide +kernel
theorem dValue_init_21 : decode cValue_init 21 = .ok (.putfield 22, 3) := by decide +kernel
theorem dValue_init_24 : decode cValue_init 24 = .ok (.aload_n 0, 1) := by decide +kernel
theorem dValue_init_25 : decode cValue_init 25 = .ok (.getfield 22, 3) := by decide +kernel
theorem dValue_init_28 : decode cValue_init 28 = .ok (.aload_n 2, 1) := by decide +kernel
theorem dValue_init_29 : decode cValue_init 29 = .ok (.invokevirtual 26, 3) := by decide +kernel
theorem dValue_init_32 : decode cValue_init 32 = .ok (.aload_n 0, 1) := by decide +kernel
theorem dValue_init_33 : decode cValue_init 33 = .ok (.aload_n 2, 1) := by decide +kernel
theorem dValue_init_34 : decode cValue_init 34 = .ok (.invokestatic 30, 3) := by decide +kernel
theorem dValue_init_37 : decode cValue_init 37 = .ok (.putfield 34, 3) := by decide +kernel
theorem dValue_init_40 : decode cValue_init 40 = .ok (.aload_n 0, 1) := by decide +kernel
theorem dValue_init_41 : decode cValue_init 41 = .ok (.aload_n 2, 1) := by decide +kernel
theorem dValue_init_42 : decode cValue_init 42 = .ok (.invokestatic 37, 3) := by decide +kernel
theorem dValue_init_45 : decode cValue_init 45 = .ok (.putfield 40, 3) := by decide +kernel
theorem dValue_init_48 : decode cValue_init 48 = .ok (.return_, 1) := by decide +kernel
theorem dSecret_rotate_0 : decode cSecret_rotate 0 = .ok (.aload_n 0, 1) := by decide +kernel
theorem dSecret_rotate_1 : decode cSecret_rotate 1 = .ok (.getfield 19, 3) := by decide +kernel
theorem dSecret_rotate_4 : decode cSecret_rotate 4 = .ok (.ifnull 16, 3) := by decide +kernel
theorem dSecret_rotate_7 : decode cSecret_rotate 7 = .ok (.aload_n 0, 1) := by decide +kernel
theorem dSecret_rotate_8 : decode cSecret_rotate 8 = .ok (.aload_n 0, 1) := by decide +kernel
theorem dSecret_rotate_9 : decode cSecret_rotate 9 = .ok (.getfield 19, 3) := by decide +kernel
theorem dSecret_rotate_12 : decode cSecret_rotate 12 = .ok (.putfield 23, 3) := by decide +kernel
theorem dSecret_rotate_15 : decode cSecret_rotate 15 = .ok (.aload_n 0, 1) := by decide +kernel
theorem dSecret_rotate_16 : decode cSecret_rotate 16 = .ok (.iload_n 2, 1) := by decide +kernel
theorem dSecret_rotate_17 : decode cSecret_rotate 17 = .ok (.putfield 26, 3) := by decide +kernel
theorem dSecret_rotate_20 : decode cSecret_rotate 20 = .ok (.aload_n 0, 1) := by decide +kernel
theorem dSecret_rotate_21 : decode cSecret_rotate 21 = .ok (.aload_n 1, 1) := by decide +kernel
theorem dSecret_rotate_22 : decode cSecret_rotate 22 = .ok (.putfield 19, 3) := by decide +kernel
theorem dSecret_rotate_25 : decode cSecret_rotate 25 = .ok (.return_, 1) := by decide +kernel
theorem dMain_setFromTape_0 : decode cMain_setFromTape 0 = .ok (.aload_n 1, 1) := by decide +kernel
theorem dMain_setFromTape_1 : decode cMain_setFromTape 1 = .ok (.ifnull 20, 3) := by decide +kernel
theorem dMain_setFromTape_4 : decode cMain_setFromTape 4 = .ok (.aload_n 1, 1) := by decide +kernel
theorem dMain_setFromTape_5 : decode cMain_setFromTape 5 = .ok (.getfield 81, 3) := by decide +kernel
theorem dMain_setFromTape_8 : decode cMain_setFromTape 8 = .ok (.ifCond .ne 13, 3) := by decide +kernel
theorem dMain_setFromTape_11 : decode cMain_setFromTape 11 = .ok (.iload_n 2, 1) := by decide +kernel
theorem dMain_setFromTape_12 : decode cMain_setFromTape 12 = .ok (.ifCond .lt 9, 3) := by decide +kernel
theorem dMain_setFromTape_15 : decode cMain_setFromTape 15 = .ok (.iload_n 2, 1) := by decide +kernel
theorem dMain_setFromTape_16 : decode cMain_setFromTape 16 = .ok (.ldc 85, 2) := by decide +kernel
theorem dMain_setFromTape_18 : decode cMain_setFromTape 18 = .ok (.if_icmp .le 5, 3) := by decide +kernel
theorem dMain_setFromTape_21 : decode cMain_setFromTape 21 = .ok (.iconst (-1), 1) := by decide +kernel
theorem dMain_setFromTape_22 : decode cMain_setFromTape 22 = .ok (.ireturn, 1) := by decide +kernel
theorem dMain_setFromTape_23 : decode cMain_setFromTape 23 = .ok (.aload_n 0, 1) := by decide +kernel
theorem dMain_setFromTape_24 : decode cMain_setFromTape 24 = .ok (.invokevirtual 191, 3) := by decide +kernel
theorem dMain_setFromTape_27 : decode cMain_setFromTape 27 = .ok (.ifCond .ne 6, 3) := by decide +kernel
theorem dMain_setFromTape_30 : decode cMain_setFromTape 30 = .ok (.bipush (-2), 2) := by decide +kernel
theorem dMain_setFromTape_32 : decode cMain_setFromTape 32 = .ok (.ireturn, 1) := by decide +kernel
theorem dMain_setFromTape_33 : decode cMain_setFromTape 33 = .ok (.aload_n 0, 1) := by decide +kernel
theorem dMain_setFromTape_34 : decode cMain_setFromTape 34 = .ok (.invokevirtual 195, 3) := by decide +kernel
theorem dMain_setFromTape_37 : decode cMain_setFromTape 37 = .ok (.ifCond .eq 6, 3) := by decide +kernel
theorem dMain_setFromTape_40 : decode cMain_setFromTape 40 = .ok (.bipush (-3), 2) := by decide +kernel
theorem dMain_setFromTape_42 : decode cMain_setFromTape 42 = .ok (.ireturn, 1) := by decide +kernel
theorem dMain_setFromTape_43 : decode cMain_setFromTape 43 = .ok (.aload_n 0, 1) := by decide +kernel
theorem dMain_setFromTape_44 : decode cMain_setFromTape 44 = .ok (.getfield 198, 3) := by decide +kernel
theorem dMain_setFromTape_47 : decode cMain_setFromTape 47 = .ok (.bipush 24, 2) := by decide +kernel
theorem dMain_setFromTape_49 : decode cMain_setFromTape 49 = .ok (.if_icmp .lt 6, 3) := by decide +kernel
theorem dMain_setFromTape_52 : decode cMain_setFromTape 52 = .ok (.bipush (-4), 2) := by decide +kernel
theorem dMain_setFromTape_54 : decode cMain_setFromTape 54 = .ok (.ireturn, 1) := by decide +kernel
theorem dMain_setFromTape_55 : decode cMain_setFromTape 55 = .ok (.aload_n 1, 1) := by decide +kernel
theorem dMain_setFromTape_56 : decode cMain_setFromTape 56 = .ok (.new 117, 3) := by decide +kernel
theorem dMain_setFromTape_59 : decode cMain_setFromTape 59 = .ok (.dup, 1) := by decide +kernel
theorem dMain_setFromTape_60 : decode cMain_setFromTape 60 = .ok (.aload_n 0, 1) := by decide +kernel
theorem dMain_setFromTape_61 : decode cMain_setFromTape 61 = .ok (.getfield 198, 3) := by decide +kernel
theorem dMain_setFromTape_64 : decode cMain_setFromTape 64 = .ok (.aload_n 0, 1) := by decide +kernel
theorem dMain_setFromTape_65 : decode cMain_setFromTape 65 = .ok (.getfield 39, 3) := by decide +kernel
theorem dMain_setFromTape_68 : decode cMain_setFromTape 68 = .ok (.invokespecial 201, 3) := by decide +kernel
theorem dMain_setFromTape_71 : decode cMain_setFromTape 71 = .ok (.aload_n 0, 1) := by decide +kernel
theorem dMain_setFromTape_72 : decode cMain_setFromTape 72 = .ok (.getfield 86, 3) := by decide +kernel
theorem dMain_setFromTape_75 : decode cMain_setFromTape 75 = .ok (.iload_n 2, 1) := by decide +kernel
theorem dMain_setFromTape_76 : decode cMain_setFromTape 76 = .ok (.iadd, 1) := by decide +kernel
theorem dMain_setFromTape_77 : decode cMain_setFromTape 77 = .ok (.invokevirtual 204, 3) := by decide +kernel
theorem dMain_setFromTape_80 : decode cMain_setFromTape 80 = .ok (.aload_n 0, 1) := by decide +kernel
theorem dMain_setFromTape_81 : decode cMain_setFromTape 81 = .ok (.dup, 1) := by decide +kernel
theorem dMain_setFromTape_82 : decode cMain_setFromTape 82 = .ok (.getfield 198, 3) := by decide +kernel
theorem dMain_setFromTape_85 : decode cMain_setFromTape 85 = .ok (.iconst 1, 1) := by decide +kernel
theorem dMain_setFromTape_86 : decode cMain_setFromTape 86 = .ok (.iadd, 1) := by decide +kernel
theorem dMain_setFromTape_87 : decode cMain_setFromTape 87 = .ok (.putfield 198, 3) := by decide +kernel
theorem dMain_setFromTape_90 : decode cMain_setFromTape 90 = .ok (.iconst 1, 1) := by decide +kernel
theorem dMain_setFromTape_91 : decode cMain_setFromTape 91 = .ok (.ireturn, 1) := by decide +kernel
theorem dText_clear_0 : decode cText_clear 0 = .ok (.aload_n 0, 1) := by decide +kernel
theorem dText_clear_1 : decode cText_clear 1 = .ok (.iconst 0, 1) := by decide +kernel
theorem dText_clear_2 : decode cText_clear 2 = .ok (.putfield 21, 3) := by decide +kernel
theorem dText_clear_5 : decode cText_clear 5 = .ok (.return_, 1) := by decide +kernel
theorem dMain_set_0 : decode cMain_set 0 = .ok (.aload_n 0, 1) := by decide +kernel
theorem dMain_set_1 : decode cMain_set 1 = .ok (.aload_n 0, 1) := by decide +kernel
theorem dMain_set_2 : decode cMain_set 2 = .ok (.iload_n 1, 1) := by decide +kernel
theorem dMain_set_3 : decode cMain_set 3 = .ok (.invokevirtual 70, 3) := by decide +kernel
theorem dMain_set_6 : decode cMain_set 6 = .ok (.iload_n 2, 1) := by decide +kernel
theorem dMain_set_7 : decode cMain_set 7 = .ok (.invokevirtual 74, 3) := by decide +kernel
theorem dMain_set_10 : decode cMain_set 10 = .ok (.istore_n 3, 1) := by decide +kernel
theorem dMain_set_11 : decode cMain_set 11 = .ok (.aload_n 0, 1) := by decide +kernel
theorem dMain_set_12 : decode cMain_set 12 = .ok (.getfield 39, 3) := by decide +kernel
theorem dMain_set_15 : decode cMain_set 15 = .ok (.invokevirtual 78, 3) := by decide +kernel
theorem dMain_set_18 : decode cMain_set 18 = .ok (.iload_n 3, 1) := by decide +kernel
theorem dMain_set_19 : decode cMain_set 19 = .ok (.ireturn, 1) := by decide +kernel
def fText_isLike (n : Nat) (a0 : Nat) (a1 : Nat) (z : gS) : Option (Int32 × gS) :=
    (g_fI z a0 0 1).bind fun v_1 =>
    (g_fI z a1 0 1).bind fun v_2 =>
    if v_1 = v_2 then (
    (g_is z a0 0).bind fun _ =>
    g_bp (fText_agrees n a0 a1 0 z) fun v_6 z_5 =>
    if v_6 = 0 then (
    some (0, z_5))
    else (
    some (1, z_5)))
    else (
    some (0, z))
set_option maxHeartbeats 4000000 in
set_option maxRecDepth 100000 in
theorem mText_isLike (l : Launch) (D : va_G) (A : Nat → Prop) (n : Nat) (z z' : gS) (a0 : Nat) (a1 : Nat) (r : Int32) (hf : fText_isLike n a0 a1 z = some (r, z')) : Met l yText_isLike wsText_isLike ({ frames := 2, cells := 0, slots := 0, locals := 45 }) (g_P D vwCl gNN gOO A z [.ref a0, .ref a1]) (g_Qi D vwCl A r z') 0 0 A := by
  refine Met.ofW (cc := cText_isLike) (maxL := 2) (ret := (some .boolean)) (by decide) rfl ?_
  intro p e s m args below meth c s₁ B hml hv
  obtain ⟨rfl, hW, hK, hA0⟩ := hv
  have C : g_C p s m meth c _ cText_isLike 2 (some .boolean) "SecretRows$Text" gW D vwCl gNN gOO A := ⟨B.exec, B.bytes, B.returns, hml, findClass_of_methodNamed B.named, fun w hw => atoms_spec (ws := wsText_isLike) B.pre w (List.mem_cons_of_mem _ hw), B.notSynchronized, hK, fun q hq => hA0 q (by rw [← hW.1]; exact hq)⟩
  have hS : va_S A s.heap s.heap [] := va_S.rf
  have hl := lv_entry ([.ref a0, .ref a1]) (n := 2) (Nat.le_of_ble_eq_true rfl)
  rw [lg_entry_eq]
  generalize (lg_sl ([.ref a0, .ref a1]) ++ List.replicate (2 - (lg_sl ([.ref a0, .ref a1])).length) Slot.unset).toArray = ls at hl ⊢
  have hl : lv_has ls 2 [(0, .ref a0), (1, .ref a1)] := hl
  obtain ⟨hx, hb, hr, hml, hown, hts, hlocks, hK, hA⟩ := id C
  unfold fText_isLike at hf
  refine lv_aload_n hx hb dText_isLike_0 rfl (lv_at hl 0 rfl) ?_
  replace hf := g_bd hf
  obtain ⟨v_1, hv_1, hf⟩ := hf
  refine g_getI hx hb hts in_Text hown hK hW (ci := 0) (C := "SecretRows$Text") (T := T_Text) (N := 2) rfl (k := 1) (by decide) (hts _ kw_50) (fun _ h9 => h9) hv_1 dText_isLike_1 ?_
  refine lv_aload_n hx hb dText_isLike_4 rfl (lv_at hl 1 rfl) ?_
  replace hf := g_bd hf
  obtain ⟨v_2, hv_2, hf⟩ := hf
  refine g_getI hx hb hts in_Text hown hK hW (ci := 0) (C := "SecretRows$Text") (T := T_Text) (N := 2) rfl (k := 1) (by decide) (hts _ kw_50) (fun _ h9 => h9) hv_2 dText_isLike_5 ?_
  refine lv_icmp_ne (tgt := 24) hx hb dText_isLike_8 (by decide) (fun c_3 => ?_) (fun c_3 => ?_)
  · replace hf := g_if c_3 hf
    refine lv_iconst (v := 0) hx hb dText_isLike_24 (by decide) ?_
    cases hf
    exact g_retz hx hb hr rfl hlocks hW hS (Nat.le_of_ble_eq_true rfl) (Nat.le_of_ble_eq_true rfl) dText_isLike_25
  · replace hf := g_it c_3 hf
    refine lv_aload_n hx hb dText_isLike_11 rfl (lv_at hl 0 rfl) ?_
    refine lv_aload_n hx hb dText_isLike_12 rfl (lv_at hl 1 rfl) ?_
    refine lv_iconst (v := 0) hx hb dText_isLike_13 (by decide) ?_
    replace hf := g_bd hf
    obtain ⟨_, hi_4, hf⟩ := hf
    replace hf := g_bps hf
    obtain ⟨v_6, z_5, hz_5, hf⟩ := hf
    refine g_goi (g_rV (As := [.ref a1, .int 0]) (rest := []) ⟨hx, hb, hml, hown, hts⟩ (mText_agrees l D A n _ _ a0 a1 0 _ hz_5) (cwV 2 hts (gi_V kw_207 kw_208 kw_209 kw_3 kw_210) rfl rfl rfl ⟨rfl, hdText_agrees⟩ ⟨Nat.le_of_ble_eq_true rfl, Nat.le_of_ble_eq_true rfl⟩) hK hW hS hA (ci := 0) (T := T_Text) (N := 2) rfl hi_4 rfl hl.1 rfl (Nat.le_of_ble_eq_true rfl) dText_isLike_14 ⟨Nat.le_of_ble_eq_true rfl, Nat.le_of_ble_eq_true rfl⟩) hS (fun H locs hW hS => ?_)
    refine lv_if_eq (tgt := 24) hx hb dText_isLike_17 (by decide) (fun c_7 => ?_) (fun c_7 => ?_)
    · replace hf := g_it c_7 hf
      refine lv_iconst (v := 0) hx hb dText_isLike_24 (by decide) ?_
      cases hf
      exact g_retz hx hb hr rfl hlocks hW hS (Nat.le_of_ble_eq_true rfl) (Nat.le_of_ble_eq_true rfl) dText_isLike_25
    · replace hf := g_if c_7 hf
      refine lv_iconst (v := 1) hx hb dText_isLike_20 (by decide) ?_
      refine lv_goto (tgt := 25) hx hb dText_isLike_21 (by decide) ?_
      cases hf
      exact g_retz hx hb hr rfl hlocks hW hS (Nat.le_of_ble_eq_true rfl) (Nat.le_of_ble_eq_true rfl) dText_isLike_25

def fSecret_has_J21 (n : Nat) (a0b : Nat) (a1b : Nat) (z : gS) : Option (Int32 × gS) :=
    (g_fR z a0b 2 4).bind fun r_11 =>
    g_n r_11 (
    some (0, z)) (fun a_12 =>
    (g_fR z a0b 2 4).bind fun r_13 =>
    r_13.bind fun a_14 =>
    (g_fR z a_14 1 1).bind fun r_15 =>
    r_15.bind fun a_16 =>
    (g_is z a_16 0).bind fun _ =>
    g_bp (fText_isLike n a_16 a1b z) fun v_19 z_18 =>
    if v_19 = 0 then (
    some (0, z_18))
    else (
    some (1, z_18)))
set_option maxHeartbeats 4000000 in
set_option maxRecDepth 100000 in
theorem bSecret_has_21 {p : Program} {l : Launch} {e : Env} {s : State} {m : MethodId} {args : Array Value} {below : List Frame} {meth : Method} {c : Code} {D : va_G} {A : Nat → Prop} (C : g_C p s m meth c args cSecret_has 2 (some .boolean) "SecretRows$Secret" gW D vwCl gNN gOO A) (n : Nat) {r : Int32} {z' : gS} : ∀ (a0b : Nat) (a1b : Nat) (z : gS) (H : Heap) (locs : List Loc) (ls : Array Slot), fSecret_has_J21 n a0b a1b z = some (r, z') → g_W D vwCl A z s H → va_S A s.heap H locs → lv_has ls 2 [(0, .ref a0b), (1, .ref a1b)] → W p l e (headSpec wsSecret_has ({ frames := 3, cells := 0, slots := 0, locals := 66 })).room s m args below meth c H locs 0 0 (MQ below (g_Qi D vwCl A r z') args s 0 0 A) (F0 m 21 ls []) := by
  obtain ⟨hx, hb, hr, hml, hown, hts, hlocks, hK, hA⟩ := id C
  intro a0b a1b z H locs ls hf hW hS hl
  unfold fSecret_has_J21 at hf
  refine lv_aload_n hx hb dSecret_has_21 rfl (lv_at hl 0 rfl) ?_
  replace hf := g_bd hf
  obtain ⟨r_11, hr_11, hf⟩ := hf
  refine g_getR hx hb hts in_Secret hown hK hW (ci := 2) (C := "SecretRows$Secret") (T := T_Secret) (N := 7) rfl (k := 4) (by decide) (hts _ kw_138) (fun _ h9 => h9) hr_11 dSecret_has_22 ?_
  cases r_11 with
  | none =>
    replace hf := g_n0 hf
    refine W.eq (g2 := F0 m 25 _ [.null]) rfl ?_
    refine lv_ifnullN (tgt := 46) hx hb dSecret_has_25 (by decide) ?_
    refine lv_iconst (v := 0) hx hb dSecret_has_46 (by decide) ?_
    cases hf
    exact g_retz hx hb hr rfl hlocks hW hS (Nat.le_of_ble_eq_true rfl) (Nat.le_of_ble_eq_true rfl) dSecret_has_47
  | some a_12 =>
    replace hf := g_n1 hf
    refine W.eq (g2 := F0 m 25 _ [.ref a_12]) rfl ?_
    refine lv_ifnull hx hb dSecret_has_25 ?_
    refine lv_aload_n hx hb dSecret_has_28 rfl (lv_at hl 0 rfl) ?_
    replace hf := g_bd hf
    obtain ⟨r_13, hr_13, hf⟩ := hf
    refine g_getR hx hb hts in_Secret hown hK hW (ci := 2) (C := "SecretRows$Secret") (T := T_Secret) (N := 7) rfl (k := 4) (by decide) (hts _ kw_138) (fun _ h9 => h9) hr_13 dSecret_has_29 ?_
    replace hf := g_bd hf
    obtain ⟨a_14, ea_14, hf⟩ := hf
    subst ea_14
    refine W.eq (g2 := F0 m 32 _ [.ref a_14]) rfl ?_
    replace hf := g_bd hf
    obtain ⟨r_15, hr_15, hf⟩ := hf
    refine g_getRN hx hb hts in_Value hown hK hW (ci := 1) (C := "SecretRows$Value") (T := T_Value) (N := 4) rfl (k := 1) (by decide) (host := "SecretRows") kw_243 (fun _ h9 => h9) hr_15 dSecret_has_32 ?_
    refine lv_aload_n hx hb dSecret_has_35 rfl (lv_at hl 1 rfl) ?_
    replace hf := g_bd hf
    obtain ⟨a_16, ea_16, hf⟩ := hf
    subst ea_16
    refine W.eq (g2 := F0 m 36 _ [.ref a1b, .ref a_16]) rfl ?_
    replace hf := g_bd hf
    obtain ⟨_, hi_17, hf⟩ := hf
    replace hf := g_bps hf
    obtain ⟨v_19, z_18, hz_18, hf⟩ := hf
    refine g_goi (g_rV (As := [.ref a1b]) (rest := []) ⟨hx, hb, hml, hown, hts⟩ (mText_isLike l D A n _ _ a_16 a1b _ hz_18) (cwV 1 hts (gi_V kw_203 kw_204 kw_205 kw_3 kw_206) rfl rfl rfl ⟨rfl, hdText_isLike⟩ ⟨Nat.le_of_ble_eq_true rfl, Nat.le_of_ble_eq_true rfl⟩) hK hW hS hA (ci := 0) (T := T_Text) (N := 2) rfl hi_17 rfl hl.1 rfl (Nat.le_of_ble_eq_true rfl) dSecret_has_36 ⟨Nat.le_of_ble_eq_true rfl, Nat.le_of_ble_eq_true rfl⟩) hS (fun H locs hW hS => ?_)
    refine lv_if_eq (tgt := 46) hx hb dSecret_has_39 (by decide) (fun c_20 => ?_) (fun c_20 => ?_)
    · replace hf := g_it c_20 hf
      refine lv_iconst (v := 0) hx hb dSecret_has_46 (by decide) ?_
      cases hf
      exact g_retz hx hb hr rfl hlocks hW hS (Nat.le_of_ble_eq_true rfl) (Nat.le_of_ble_eq_true rfl) dSecret_has_47
    · replace hf := g_if c_20 hf
      refine lv_iconst (v := 1) hx hb dSecret_has_42 (by decide) ?_
      refine lv_goto (tgt := 47) hx hb dSecret_has_43 (by decide) ?_
      cases hf
      exact g_retz hx hb hr rfl hlocks hW hS (Nat.le_of_ble_eq_true rfl) (Nat.le_of_ble_eq_true rfl) dSecret_has_47
def fSecret_has (n : Nat) (a0 : Nat) (a1 : Nat) (z : gS) : Option (Int32 × gS) :=
    (g_fR z a0 2 3).bind fun r_1 =>
    g_n r_1 (
    fSecret_has_J21 n a0 a1 z) (fun a_2 =>
    (g_fR z a0 2 3).bind fun r_3 =>
    r_3.bind fun a_4 =>
    (g_fR z a_4 1 1).bind fun r_5 =>
    r_5.bind fun a_6 =>
    (g_is z a_6 0).bind fun _ =>
    g_bp (fText_isLike n a_6 a1 z) fun v_9 z_8 =>
    if v_9 = 0 then (
    fSecret_has_J21 n a0 a1 z_8)
    else (
    some (1, z_8)))
set_option maxHeartbeats 4000000 in
set_option maxRecDepth 100000 in
theorem mSecret_has (l : Launch) (D : va_G) (A : Nat → Prop) (n : Nat) (z z' : gS) (a0 : Nat) (a1 : Nat) (r : Int32) (hf : fSecret_has n a0 a1 z = some (r, z')) : Met l ySecret_has wsSecret_has ({ frames := 3, cells := 0, slots := 0, locals := 66 }) (g_P D vwCl gNN gOO A z [.ref a0, .ref a1]) (g_Qi D vwCl A r z') 0 0 A := by
  refine Met.ofW (cc := cSecret_has) (maxL := 2) (ret := (some .boolean)) (by decide) rfl ?_
  intro p e s m args below meth c s₁ B hml hv
  obtain ⟨rfl, hW, hK, hA0⟩ := hv
  have C : g_C p s m meth c _ cSecret_has 2 (some .boolean) "SecretRows$Secret" gW D vwCl gNN gOO A := ⟨B.exec, B.bytes, B.returns, hml, findClass_of_methodNamed B.named, fun w hw => atoms_spec (ws := wsSecret_has) B.pre w (List.mem_cons_of_mem _ hw), B.notSynchronized, hK, fun q hq => hA0 q (by rw [← hW.1]; exact hq)⟩
  have hS : va_S A s.heap s.heap [] := va_S.rf
  have hl := lv_entry ([.ref a0, .ref a1]) (n := 2) (Nat.le_of_ble_eq_true rfl)
  rw [lg_entry_eq]
  generalize (lg_sl ([.ref a0, .ref a1]) ++ List.replicate (2 - (lg_sl ([.ref a0, .ref a1])).length) Slot.unset).toArray = ls at hl ⊢
  have hl : lv_has ls 2 [(0, .ref a0), (1, .ref a1)] := hl
  obtain ⟨hx, hb, hr, hml, hown, hts, hlocks, hK, hA⟩ := id C
  unfold fSecret_has at hf
  refine lv_aload_n hx hb dSecret_has_0 rfl (lv_at hl 0 rfl) ?_
  replace hf := g_bd hf
  obtain ⟨r_1, hr_1, hf⟩ := hf
  refine g_getR hx hb hts in_Secret hown hK hW (ci := 2) (C := "SecretRows$Secret") (T := T_Secret) (N := 7) rfl (k := 3) (by decide) (hts _ kw_136) (fun _ h9 => h9) hr_1 dSecret_has_1 ?_
  cases r_1 with
  | none =>
    replace hf := g_n0 hf
    refine W.eq (g2 := F0 m 4 _ [.null]) rfl ?_
    refine lv_ifnullN (tgt := 21) hx hb dSecret_has_4 (by decide) ?_
    exact bSecret_has_21 C n a0 a1 _ _ _ _ hf hW hS (lv_sub hl [0, 1] rfl)
  | some a_2 =>
    replace hf := g_n1 hf
    refine W.eq (g2 := F0 m 4 _ [.ref a_2]) rfl ?_
    refine lv_ifnull hx hb dSecret_has_4 ?_
    refine lv_aload_n hx hb dSecret_has_7 rfl (lv_at hl 0 rfl) ?_
    replace hf := g_bd hf
    obtain ⟨r_3, hr_3, hf⟩ := hf
    refine g_getR hx hb hts in_Secret hown hK hW (ci := 2) (C := "SecretRows$Secret") (T := T_Secret) (N := 7) rfl (k := 3) (by decide) (hts _ kw_136) (fun _ h9 => h9) hr_3 dSecret_has_8 ?_
    replace hf := g_bd hf
    obtain ⟨a_4, ea_4, hf⟩ := hf
    subst ea_4
    refine W.eq (g2 := F0 m 11 _ [.ref a_4]) rfl ?_
    replace hf := g_bd hf
    obtain ⟨r_5, hr_5, hf⟩ := hf
    refine g_getRN hx hb hts in_Value hown hK hW (ci := 1) (C := "SecretRows$Value") (T := T_Value) (N := 4) rfl (k := 1) (by decide) (host := "SecretRows") kw_243 (fun _ h9 => h9) hr_5 dSecret_has_11 ?_
    refine lv_aload_n hx hb dSecret_has_14 rfl (lv_at hl 1 rfl) ?_
    replace hf := g_bd hf
    obtain ⟨a_6, ea_6, hf⟩ := hf
    subst ea_6
    refine W.eq (g2 := F0 m 15 _ [.ref a1, .ref a_6]) rfl ?_
    replace hf := g_bd hf
    obtain ⟨_, hi_7, hf⟩ := hf
    replace hf := g_bps hf
    obtain ⟨v_9, z_8, hz_8, hf⟩ := hf
    refine g_goi (g_rV (As := [.ref a1]) (rest := []) ⟨hx, hb, hml, hown, hts⟩ (mText_isLike l D A n _ _ a_6 a1 _ hz_8) (cwV 1 hts (gi_V kw_203 kw_204 kw_205 kw_3 kw_206) rfl rfl rfl ⟨rfl, hdText_isLike⟩ ⟨Nat.le_of_ble_eq_true rfl, Nat.le_of_ble_eq_true rfl⟩) hK hW hS hA (ci := 0) (T := T_Text) (N := 2) rfl hi_7 rfl hl.1 rfl (Nat.le_of_ble_eq_true rfl) dSecret_has_15 ⟨Nat.le_of_ble_eq_true rfl, Nat.le_of_ble_eq_true rfl⟩) hS (fun H locs hW hS => ?_)
    refine lv_if_ne (tgt := 42) hx hb dSecret_has_18 (by decide) (fun c_10 => ?_) (fun c_10 => ?_)
    · replace hf := g_if c_10 hf
      refine lv_iconst (v := 1) hx hb dSecret_has_42 (by decide) ?_
      refine lv_goto (tgt := 47) hx hb dSecret_has_43 (by decide) ?_
      cases hf
      exact g_retz hx hb hr rfl hlocks hW hS (Nat.le_of_ble_eq_true rfl) (Nat.le_of_ble_eq_true rfl) dSecret_has_47
    · replace hf := g_it c_10 hf
      exact bSecret_has_21 C n a0 a1 _ _ _ _ hf hW hS (lv_sub hl [0, 1] rfl)

def fMain_tapeIsHad_L2 (n : Nat) : Nat → Nat → Int32 → gS → Option (Int32 × gS)
  | 0, _, _, _ => none
  | k + 1, a0b, i1b, z =>
    (g_fI z a0b 8 6).bind fun v_1 =>
    if v_1 ≤ i1b then (
    some (0, z))
    else (
    (g_is z a0b 8).bind fun _ =>
    g_bp (fMain_findSecret n a0b i1b z) fun r_5 z_4 =>
    g_n r_5 (
    fMain_tapeIsHad_L2 n k a0b (i1b + 1) z_4) (fun a_6 =>
    (g_fR z_4 a0b 8 4).bind fun r_7 =>
    r_7.bind fun a_8 =>
    (g_is z_4 a_6 2).bind fun _ =>
    g_bp (fSecret_has n a_6 a_8 z_4) fun v_11 z_10 =>
    if v_11 = 0 then (
    fMain_tapeIsHad_L2 n k a0b (i1b + 1) z_10)
    else (
    some (1, z_10))))
set_option maxHeartbeats 4000000 in
set_option maxRecDepth 100000 in
theorem bMain_tapeIsHad_2 {p : Program} {l : Launch} {e : Env} {s : State} {m : MethodId} {args : Array Value} {below : List Frame} {meth : Method} {c : Code} {D : va_G} {A : Nat → Prop} (C : g_C p s m meth c args cMain_tapeIsHad 3 (some .boolean) "SecretRows" gW D vwCl gNN gOO A) (n : Nat) {r : Int32} {z' : gS} : ∀ k : Nat, ∀ (a0b : Nat) (i1b : Int32) (z : gS) (H : Heap) (locs : List Loc) (ls : Array Slot), fMain_tapeIsHad_L2 n k a0b i1b z = some (r, z') → g_W D vwCl A z s H → va_S A s.heap H locs → lv_has ls 3 [(0, .ref a0b), (1, .int i1b)] → W p l e (headSpec wsMain_tapeIsHad ({ frames := 4, cells := 0, slots := 0, locals := 87 })).room s m args below meth c H locs 0 0 (MQ below (g_Qi D vwCl A r z') args s 0 0 A) (F0 m 2 ls []) := by
  obtain ⟨hx, hb, hr, hml, hown, hts, hlocks, hK, hA⟩ := id C
  intro k
  induction k with
  | zero =>
    intro a0b i1b z H locs ls hf
    have hf : (none : Option (Int32 × gS)) = some _ := hf
    cases hf
  | succ k ih =>
    intro a0b i1b z H locs ls hf hW hS hl
    rw [fMain_tapeIsHad_L2] at hf
    refine lv_iload_n hx hb dMain_tapeIsHad_2 rfl (lv_at hl 1 rfl) ?_
    refine lv_aload_n hx hb dMain_tapeIsHad_3 rfl (lv_at hl 0 rfl) ?_
    replace hf := g_bd hf
    obtain ⟨v_1, hv_1, hf⟩ := hf
    refine g_getI hx hb hts in_Main hown hK hW (ci := 8) (C := "SecretRows") (T := T_Main) (N := 14) rfl (k := 6) (by decide) (hts _ kw_87) (fun _ h9 => h9) hv_1 dMain_tapeIsHad_4 ?_
    refine lv_icmp_ge (tgt := 39) hx hb dMain_tapeIsHad_7 (by decide) (fun c_2 => ?_) (fun c_2 => ?_)
    · replace hf := g_it c_2 hf
      refine lv_iconst (v := 0) hx hb dMain_tapeIsHad_39 (by decide) ?_
      cases hf
      exact g_retz hx hb hr rfl hlocks hW hS (Nat.le_of_ble_eq_true rfl) (Nat.le_of_ble_eq_true rfl) dMain_tapeIsHad_40
    · replace hf := g_if c_2 hf
      refine lv_aload_n hx hb dMain_tapeIsHad_10 rfl (lv_at hl 0 rfl) ?_
      refine lv_iload_n hx hb dMain_tapeIsHad_11 rfl (lv_at hl 1 rfl) ?_
      replace hf := g_bd hf
      obtain ⟨_, hi_3, hf⟩ := hf
      replace hf := g_bps hf
      obtain ⟨r_5, z_4, hz_4, hf⟩ := hf
      refine g_goq (g_rV (As := [.int i1b]) (rest := []) ⟨hx, hb, hml, hown, hts⟩ (mMain_findSecret l D A n _ _ a0b i1b _ hz_4) (cwV 1 hts (gi_V kw_170 kw_172 ks_Main_findSecret kw_1 kw_173) rfl rfl rfl ⟨rfl, hdMain_findSecret⟩ ⟨Nat.le_of_ble_eq_true rfl, Nat.le_of_ble_eq_true rfl⟩) hK hW hS hA (ci := 8) (T := T_Main) (N := 14) rfl hi_3 rfl hl.1 rfl (Nat.le_of_ble_eq_true rfl) dMain_tapeIsHad_12 ⟨Nat.le_of_ble_eq_true rfl, Nat.le_of_ble_eq_true rfl⟩) hS (fun H locs hW hS => ?_)
      refine g_astore_n (lv' := [(2, va_rf r_5), (0, .ref a0b), (1, .int i1b)]) hx hb dMain_tapeIsHad_15 rfl hl (by decide) rfl (fun _ hl1 => ?_)
      clear hl
      have hl := hl1
      clear hl1
      refine g_aload_n hx hb dMain_tapeIsHad_16 rfl (lv_at hl 0 rfl) ?_
      cases r_5 with
      | none =>
        replace hf := g_n0 hf
        replace hl : lv_has _ 3 [(2, .null), (0, .ref a0b), (1, .int i1b)] := hl
        refine W.eq (g2 := F0 m 17 _ [.null]) rfl ?_
        refine lv_ifnullN (tgt := 33) hx hb dMain_tapeIsHad_17 (by decide) ?_
        refine lv_iinc (v := (i1b + 1)) (lv' := [(1, .int (i1b + 1)), (2, .null), (0, .ref a0b)]) hx hb dMain_tapeIsHad_33 hl (k := 2) rfl rfl (by decide) rfl (fun _ hl1 => ?_)
        clear hl
        have hl := hl1
        clear hl1
        refine lv_goto (tgt := 2) hx hb dMain_tapeIsHad_36 (by decide) ?_
        exact ih a0b (i1b + 1) _ _ _ _ hf hW hS (lv_sub hl [2, 0] rfl)
      | some a_6 =>
        replace hf := g_n1 hf
        replace hl : lv_has _ 3 [(2, .ref a_6), (0, .ref a0b), (1, .int i1b)] := hl
        refine W.eq (g2 := F0 m 17 _ [.ref a_6]) rfl ?_
        refine lv_ifnull hx hb dMain_tapeIsHad_17 ?_
        refine lv_aload_n hx hb dMain_tapeIsHad_20 rfl (lv_at hl 0 rfl) ?_
        refine lv_aload_n hx hb dMain_tapeIsHad_21 rfl (lv_at hl 1 rfl) ?_
        replace hf := g_bd hf
        obtain ⟨r_7, hr_7, hf⟩ := hf
        refine g_getR hx hb hts in_Main hown hK hW (ci := 8) (C := "SecretRows") (T := T_Main) (N := 14) rfl (k := 4) (by decide) (hts _ kw_85) (fun _ h9 => h9) hr_7 dMain_tapeIsHad_22 ?_
        replace hf := g_bd hf
        obtain ⟨a_8, ea_8, hf⟩ := hf
        subst ea_8
        refine W.eq (g2 := F0 m 25 _ [.ref a_8, .ref a_6]) rfl ?_
        replace hf := g_bd hf
        obtain ⟨_, hi_9, hf⟩ := hf
        replace hf := g_bps hf
        obtain ⟨v_11, z_10, hz_10, hf⟩ := hf
        refine g_goi (g_rV (As := [.ref a_8]) (rest := []) ⟨hx, hb, hml, hown, hts⟩ (mSecret_has l D A n _ _ a_6 a_8 _ hz_10) (cwV 1 hts (gi_V kw_199 kw_200 kw_201 kw_7 kw_202) rfl rfl rfl ⟨rfl, hdSecret_has⟩ ⟨Nat.le_of_ble_eq_true rfl, Nat.le_of_ble_eq_true rfl⟩) hK hW hS hA (ci := 2) (T := T_Secret) (N := 7) rfl hi_9 rfl hl.1 rfl (Nat.le_of_ble_eq_true rfl) dMain_tapeIsHad_25 ⟨Nat.le_of_ble_eq_true rfl, Nat.le_of_ble_eq_true rfl⟩) hS (fun H locs hW hS => ?_)
        refine lv_if_eq (tgt := 33) hx hb dMain_tapeIsHad_28 (by decide) (fun c_12 => ?_) (fun c_12 => ?_)
        · replace hf := g_it c_12 hf
          refine lv_iinc (v := (i1b + 1)) (lv' := [(1, .int (i1b + 1)), (2, .ref a_6), (0, .ref a0b)]) hx hb dMain_tapeIsHad_33 hl (k := 2) rfl rfl (by decide) rfl (fun _ hl1 => ?_)
          clear hl
          have hl := hl1
          clear hl1
          refine lv_goto (tgt := 2) hx hb dMain_tapeIsHad_36 (by decide) ?_
          exact ih a0b (i1b + 1) _ _ _ _ hf hW hS (lv_sub hl [2, 0] rfl)
        · replace hf := g_if c_12 hf
          refine lv_iconst (v := 1) hx hb dMain_tapeIsHad_31 (by decide) ?_
          cases hf
          exact g_retz hx hb hr rfl hlocks hW hS (Nat.le_of_ble_eq_true rfl) (Nat.le_of_ble_eq_true rfl) dMain_tapeIsHad_32
def fMain_tapeIsHad (n : Nat) (a0 : Nat) (z : gS) : Option (Int32 × gS) :=
    fMain_tapeIsHad_L2 n n a0 0 z
set_option maxHeartbeats 4000000 in
set_option maxRecDepth 100000 in
theorem mMain_tapeIsHad (l : Launch) (D : va_G) (A : Nat → Prop) (n : Nat) (z z' : gS) (a0 : Nat) (r : Int32) (hf : fMain_tapeIsHad n a0 z = some (r, z')) : Met l yMain_tapeIsHad wsMain_tapeIsHad ({ frames := 4, cells := 0, slots := 0, locals := 87 }) (g_P D vwCl gNN gOO A z [.ref a0]) (g_Qi D vwCl A r z') 0 0 A := by
  refine Met.ofW (cc := cMain_tapeIsHad) (maxL := 3) (ret := (some .boolean)) (by decide) rfl ?_
  intro p e s m args below meth c s₁ B hml hv
  obtain ⟨rfl, hW, hK, hA0⟩ := hv
  have C : g_C p s m meth c _ cMain_tapeIsHad 3 (some .boolean) "SecretRows" gW D vwCl gNN gOO A := ⟨B.exec, B.bytes, B.returns, hml, findClass_of_methodNamed B.named, fun w hw => atoms_spec (ws := wsMain_tapeIsHad) B.pre w (List.mem_cons_of_mem _ hw), B.notSynchronized, hK, fun q hq => hA0 q (by rw [← hW.1]; exact hq)⟩
  have hS : va_S A s.heap s.heap [] := va_S.rf
  have hl := lv_entry ([.ref a0]) (n := 3) (Nat.le_of_ble_eq_true rfl)
  rw [lg_entry_eq]
  generalize (lg_sl ([.ref a0]) ++ List.replicate (3 - (lg_sl ([.ref a0])).length) Slot.unset).toArray = ls at hl ⊢
  have hl : lv_has ls 3 [(0, .ref a0)] := hl
  obtain ⟨hx, hb, hr, hml, hown, hts, hlocks, hK, hA⟩ := id C
  unfold fMain_tapeIsHad at hf
  refine lv_iconst (v := 0) hx hb dMain_tapeIsHad_0 (by decide) ?_
  refine lv_istore_n (lv' := [(1, .int 0), (0, .ref a0)]) hx hb dMain_tapeIsHad_1 rfl hl (by decide) rfl (fun _ hl1 => ?_)
  clear hl
  have hl := hl1
  clear hl1
  exact bMain_tapeIsHad_2 C n n a0 0 _ _ _ _ hf hW hS (lv_sub hl [1, 0] rfl)

def fText_addAll_L2 (n : Nat) : Nat → Nat → Nat → Int32 → gS → Option (gS)
  | 0, _, _, _, _ => none
  | k + 1, a0b, a1b, i2b, z =>
    (g_fI z a1b 0 1).bind fun v_1 =>
    if v_1 ≤ i2b then (
    some z)
    else (
    (g_is z a1b 0).bind fun _ =>
    g_bp (fText_at n a1b i2b z) fun v_5 z_4 =>
    (g_is z_4 a0b 0).bind fun _ =>
    g_bp (fText_add n a0b v_5 z_4) fun v_8 z_7 =>
    fText_addAll_L2 n k a0b a1b (i2b + 1) z_7)
set_option maxHeartbeats 4000000 in
set_option maxRecDepth 100000 in
theorem bText_addAll_2 {p : Program} {l : Launch} {e : Env} {s : State} {m : MethodId} {args : Array Value} {below : List Frame} {meth : Method} {c : Code} {D : va_G} {A : Nat → Prop} (C : g_C p s m meth c args cText_addAll 3 none "SecretRows$Text" gW D vwCl gNN gOO A) (n : Nat) {z' : gS} : ∀ k : Nat, ∀ (a0b : Nat) (a1b : Nat) (i2b : Int32) (z : gS) (H : Heap) (locs : List Loc) (ls : Array Slot), fText_addAll_L2 n k a0b a1b i2b z = some z' → g_W D vwCl A z s H → va_S A s.heap H locs → lv_has ls 3 [(0, .ref a0b), (1, .ref a1b), (2, .int i2b)] → W p l e (headSpec wsText_addAll ({ frames := 1, cells := 0, slots := 0, locals := 21 })).room s m args below meth c H locs 0 0 (MQ below (g_Qv D vwCl A z') args s 0 0 A) (F0 m 2 ls []) := by
  obtain ⟨hx, hb, hr, hml, hown, hts, hlocks, hK, hA⟩ := id C
  intro k
  induction k with
  | zero =>
    intro a0b a1b i2b z H locs ls hf
    have hf : (none : Option (gS)) = some _ := hf
    cases hf
  | succ k ih =>
    intro a0b a1b i2b z H locs ls hf hW hS hl
    rw [fText_addAll_L2] at hf
    refine lv_iload_n hx hb dText_addAll_2 rfl (lv_at hl 2 rfl) ?_
    refine lv_aload_n hx hb dText_addAll_3 rfl (lv_at hl 1 rfl) ?_
    replace hf := g_bd hf
    obtain ⟨v_1, hv_1, hf⟩ := hf
    refine g_getI hx hb hts in_Text hown hK hW (ci := 0) (C := "SecretRows$Text") (T := T_Text) (N := 2) rfl (k := 1) (by decide) (hts _ kw_50) (fun _ h9 => h9) hv_1 dText_addAll_4 ?_
    refine lv_icmp_ge (tgt := 26) hx hb dText_addAll_7 (by decide) (fun c_2 => ?_) (fun c_2 => ?_)
    · replace hf := g_it c_2 hf
      cases hf
      exact g_retv hx hb hr hlocks hW hS (Nat.le_of_ble_eq_true rfl) (Nat.le_of_ble_eq_true rfl) dText_addAll_26
    · replace hf := g_if c_2 hf
      refine lv_aload_n hx hb dText_addAll_10 rfl (lv_at hl 0 rfl) ?_
      refine lv_aload_n hx hb dText_addAll_11 rfl (lv_at hl 1 rfl) ?_
      refine lv_iload_n hx hb dText_addAll_12 rfl (lv_at hl 2 rfl) ?_
      replace hf := g_bd hf
      obtain ⟨_, hi_3, hf⟩ := hf
      replace hf := g_bps hf
      obtain ⟨v_5, z_4, hz_4, hf⟩ := hf
      refine g_goi (g_rV (As := [.int i2b]) (rest := [.ref a0b]) ⟨hx, hb, hml, hown, hts⟩ (mText_at l D A n _ _ a1b i2b _ hz_4) (cwV 1 hts (gi_V kw_191 kw_192 kw_193 kw_3 kw_194) rfl rfl rfl ⟨rfl, hdText_at⟩ ⟨Nat.le_of_ble_eq_true rfl, Nat.le_of_ble_eq_true rfl⟩) hK hW hS hA (ci := 0) (T := T_Text) (N := 2) rfl hi_3 rfl hl.1 rfl (Nat.le_of_ble_eq_true rfl) dText_addAll_13 ⟨Nat.le_of_ble_eq_true rfl, Nat.le_of_ble_eq_true rfl⟩) hS (fun H locs hW hS => ?_)
      replace hf := g_bd hf
      obtain ⟨_, hi_6, hf⟩ := hf
      replace hf := g_bps hf
      obtain ⟨v_8, z_7, hz_7, hf⟩ := hf
      refine g_goi (g_rV (As := [.int v_5]) (rest := []) ⟨hx, hb, hml, hown, hts⟩ (mText_add l D A n _ _ a0b v_5 _ hz_7) (cwV 1 hts (gi_V kw_227 kw_163 kw_164 kw_3 kw_165) rfl rfl rfl ⟨rfl, hdText_add⟩ ⟨Nat.le_of_ble_eq_true rfl, Nat.le_of_ble_eq_true rfl⟩) hK hW hS hA (ci := 0) (T := T_Text) (N := 2) rfl hi_6 rfl hl.1 rfl (Nat.le_of_ble_eq_true rfl) dText_addAll_16 ⟨Nat.le_of_ble_eq_true rfl, Nat.le_of_ble_eq_true rfl⟩) hS (fun H locs hW hS => ?_)
      refine lv_pop hx hb dText_addAll_19 rfl ?_
      refine lv_iinc (v := (i2b + 1)) (lv' := [(2, .int (i2b + 1)), (0, .ref a0b), (1, .ref a1b)]) hx hb dText_addAll_20 hl (k := 2) rfl rfl (by decide) rfl (fun _ hl1 => ?_)
      clear hl
      have hl := hl1
      clear hl1
      refine lv_goto (tgt := 2) hx hb dText_addAll_23 (by decide) ?_
      exact ih a0b a1b (i2b + 1) _ _ _ _ hf hW hS (lv_sub hl [1, 2, 0] rfl)
def fText_addAll (n : Nat) (a0 : Nat) (a1 : Nat) (z : gS) : Option (gS) :=
    fText_addAll_L2 n n a0 a1 0 z
set_option maxHeartbeats 4000000 in
set_option maxRecDepth 100000 in
theorem mText_addAll (l : Launch) (D : va_G) (A : Nat → Prop) (n : Nat) (z z' : gS) (a0 : Nat) (a1 : Nat) (hf : fText_addAll n a0 a1 z = some z') : Met l yText_addAll wsText_addAll ({ frames := 1, cells := 0, slots := 0, locals := 21 }) (g_P D vwCl gNN gOO A z [.ref a0, .ref a1]) (g_Qv D vwCl A z') 0 0 A := by
  refine Met.ofW (cc := cText_addAll) (maxL := 3) (ret := none) (by decide) rfl ?_
  intro p e s m args below meth c s₁ B hml hv
  obtain ⟨rfl, hW, hK, hA0⟩ := hv
  have C : g_C p s m meth c _ cText_addAll 3 none "SecretRows$Text" gW D vwCl gNN gOO A := ⟨B.exec, B.bytes, B.returns, hml, findClass_of_methodNamed B.named, fun w hw => atoms_spec (ws := wsText_addAll) B.pre w (List.mem_cons_of_mem _ hw), B.notSynchronized, hK, fun q hq => hA0 q (by rw [← hW.1]; exact hq)⟩
  have hS : va_S A s.heap s.heap [] := va_S.rf
  have hl := lv_entry ([.ref a0, .ref a1]) (n := 3) (Nat.le_of_ble_eq_true rfl)
  rw [lg_entry_eq]
  generalize (lg_sl ([.ref a0, .ref a1]) ++ List.replicate (3 - (lg_sl ([.ref a0, .ref a1])).length) Slot.unset).toArray = ls at hl ⊢
  have hl : lv_has ls 3 [(0, .ref a0), (1, .ref a1)] := hl
  obtain ⟨hx, hb, hr, hml, hown, hts, hlocks, hK, hA⟩ := id C
  unfold fText_addAll at hf
  refine lv_iconst (v := 0) hx hb dText_addAll_0 (by decide) ?_
  refine lv_istore_n (lv' := [(2, .int 0), (0, .ref a0), (1, .ref a1)]) hx hb dText_addAll_1 rfl hl (by decide) rfl (fun _ hl1 => ?_)
  clear hl
  have hl := hl1
  clear hl1
  exact bText_addAll_2 C n n a0 a1 0 _ _ _ _ hf hW hS (lv_sub hl [1, 2, 0] rfl)

def fValue_turned_L19 (n : Nat) : Nat → Nat → Nat → Int32 → gS → Option (Option Nat × gS)
  | 0, _, _, _, _ => none
  | k + 1, a0b, a1b, i2b, z =>
    if i2b < 0 then (
    some (some a1b, z))
    else (
    (g_is z a0b 0).bind fun _ =>
    g_bp (fText_at n a0b i2b z) fun v_13 z_12 =>
    (g_is z_12 a1b 0).bind fun _ =>
    g_bp (fText_add n a1b v_13 z_12) fun v_16 z_15 =>
    fValue_turned_L19 n k a0b a1b (i2b + (-1)) z_15)
set_option maxHeartbeats 4000000 in
set_option maxRecDepth 100000 in
theorem bValue_turned_19 {p : Program} {l : Launch} {e : Env} {s : State} {m : MethodId} {args : Array Value} {below : List Frame} {meth : Method} {c : Code} {D : va_G} {A : Nat → Prop} (C : g_C p s m meth c args cValue_turned 3 (some (.object "SecretRows$Text")) "SecretRows$Value" gW D vwCl gNN gOO A) (n : Nat) {r : Option Nat} {z' : gS} : ∀ k : Nat, ∀ (a0b : Nat) (a1b : Nat) (i2b : Int32) (z : gS) (H : Heap) (locs : List Loc) (ls : Array Slot), fValue_turned_L19 n k a0b a1b i2b z = some (r, z') → g_W D vwCl A z s H → va_S A s.heap H locs → lv_has ls 3 [(0, .ref a0b), (1, .ref a1b), (2, .int i2b)] → W p l e (headSpec wsValue_turned ({ frames := 2, cells := 2, slots := 302, locals := 36 })).room s m args below meth c H locs 2 302 (MQ below (g_Qq D vwCl A r z') args s 2 302 A) (F0 m 19 ls []) := by
  obtain ⟨hx, hb, hr, hml, hown, hts, hlocks, hK, hA⟩ := id C
  intro k
  induction k with
  | zero =>
    intro a0b a1b i2b z H locs ls hf
    have hf : (none : Option (Option Nat × gS)) = some _ := hf
    cases hf
  | succ k ih =>
    intro a0b a1b i2b z H locs ls hf hW hS hl
    rw [fValue_turned_L19] at hf
    refine lv_iload_n hx hb dValue_turned_19 rfl (lv_at hl 2 rfl) ?_
    refine lv_if_lt (tgt := 39) hx hb dValue_turned_20 (by decide) (fun c_10 => ?_) (fun c_10 => ?_)
    · replace hf := g_it c_10 hf
      refine lv_aload_n hx hb dValue_turned_39 rfl (lv_at hl 1 rfl) ?_
      cases hf
      exact g_reta (v := some a1b) hx hb hr (Or.inl ⟨_, rfl⟩) hlocks hW hS (Nat.le_of_ble_eq_true rfl) (Nat.le_of_ble_eq_true rfl) dValue_turned_40
    · replace hf := g_if c_10 hf
      refine lv_aload_n hx hb dValue_turned_23 rfl (lv_at hl 1 rfl) ?_
      refine lv_aload_n hx hb dValue_turned_24 rfl (lv_at hl 0 rfl) ?_
      refine lv_iload_n hx hb dValue_turned_25 rfl (lv_at hl 2 rfl) ?_
      replace hf := g_bd hf
      obtain ⟨_, hi_11, hf⟩ := hf
      replace hf := g_bps hf
      obtain ⟨v_13, z_12, hz_12, hf⟩ := hf
      refine g_goi (g_rV (As := [.int i2b]) (rest := [.ref a1b]) ⟨hx, hb, hml, hown, hts⟩ (mText_at l D A n _ _ a0b i2b _ hz_12) (cwV 1 hts (gi_V kw_231 kw_192 kw_193 kw_3 kw_194) rfl rfl rfl ⟨rfl, hdText_at⟩ ⟨Nat.le_of_ble_eq_true rfl, Nat.le_of_ble_eq_true rfl⟩) hK hW hS hA (ci := 0) (T := T_Text) (N := 2) rfl hi_11 rfl hl.1 rfl (Nat.le_of_ble_eq_true rfl) dValue_turned_26 ⟨Nat.le_of_ble_eq_true rfl, Nat.le_of_ble_eq_true rfl⟩) hS (fun H locs hW hS => ?_)
      replace hf := g_bd hf
      obtain ⟨_, hi_14, hf⟩ := hf
      replace hf := g_bps hf
      obtain ⟨v_16, z_15, hz_15, hf⟩ := hf
      refine g_goi (g_rV (As := [.int v_13]) (rest := []) ⟨hx, hb, hml, hown, hts⟩ (mText_add l D A n _ _ a1b v_13 _ hz_15) (cwV 1 hts (gi_V kw_232 kw_163 kw_164 kw_3 kw_165) rfl rfl rfl ⟨rfl, hdText_add⟩ ⟨Nat.le_of_ble_eq_true rfl, Nat.le_of_ble_eq_true rfl⟩) hK hW hS hA (ci := 0) (T := T_Text) (N := 2) rfl hi_14 rfl hl.1 rfl (Nat.le_of_ble_eq_true rfl) dValue_turned_29 ⟨Nat.le_of_ble_eq_true rfl, Nat.le_of_ble_eq_true rfl⟩) hS (fun H locs hW hS => ?_)
      refine lv_pop hx hb dValue_turned_32 rfl ?_
      refine lv_iinc (v := (i2b + (-1))) (lv' := [(2, .int (i2b + (-1))), (0, .ref a0b), (1, .ref a1b)]) hx hb dValue_turned_33 hl (k := 2) rfl rfl (by decide) rfl (fun _ hl1 => ?_)
      clear hl
      have hl := hl1
      clear hl1
      refine lv_goto (tgt := 19) hx hb dValue_turned_36 (by decide) ?_
      exact ih a0b a1b (i2b + (-1)) _ _ _ _ hf hW hS (lv_sub hl [1, 2, 0] rfl)
def fValue_turned (n : Nat) (a0 : Nat) (z : gS) : Option (Option Nat × gS) :=
    g_bp (g_nwO z 0 [.null, .int 0]) fun a_1 z_2 =>
    (g_is z_2 a0 0).bind fun _ =>
    g_bp (fText_length n a0 z_2) fun v_5 z_4 =>
    (fText_init n a_1 v_5 z_4).bind fun z_6 =>
    (g_is z_6 a0 0).bind fun _ =>
    g_bp (fText_length n a0 z_6) fun v_9 z_8 =>
    fValue_turned_L19 n n a0 a_1 (v_9 - 1) z_8
set_option maxHeartbeats 4000000 in
set_option maxRecDepth 100000 in
theorem mValue_turned (l : Launch) (D : va_G) (A : Nat → Prop) (n : Nat) (z z' : gS) (a0 : Nat) (r : Option Nat) (hf : fValue_turned n a0 z = some (r, z')) : Met l yValue_turned wsValue_turned ({ frames := 2, cells := 2, slots := 302, locals := 36 }) (g_P D vwCl gNN gOO A z [.ref a0]) (g_Qq D vwCl A r z') 2 302 A := by
  refine Met.ofW (cc := cValue_turned) (maxL := 3) (ret := (some (.object "SecretRows$Text"))) (by decide) rfl ?_
  intro p e s m args below meth c s₁ B hml hv
  obtain ⟨rfl, hW, hK, hA0⟩ := hv
  have C : g_C p s m meth c _ cValue_turned 3 (some (.object "SecretRows$Text")) "SecretRows$Value" gW D vwCl gNN gOO A := ⟨B.exec, B.bytes, B.returns, hml, findClass_of_methodNamed B.named, fun w hw => atoms_spec (ws := wsValue_turned) B.pre w (List.mem_cons_of_mem _ hw), B.notSynchronized, hK, fun q hq => hA0 q (by rw [← hW.1]; exact hq)⟩
  have hS : va_S A s.heap s.heap [] := va_S.rf
  have hl := lv_entry ([.ref a0]) (n := 3) (Nat.le_of_ble_eq_true rfl)
  rw [lg_entry_eq]
  generalize (lg_sl ([.ref a0]) ++ List.replicate (3 - (lg_sl ([.ref a0])).length) Slot.unset).toArray = ls at hl ⊢
  have hl : lv_has ls 3 [(0, .ref a0)] := hl
  obtain ⟨hx, hb, hr, hml, hown, hts, hlocks, hK, hA⟩ := id C
  unfold fValue_turned at hf
  replace hf := g_bps hf
  obtain ⟨a_1, z_2, hz_2, hf⟩ := hf
  refine g_newO hx hb hts in_Text ty_Text tyok_Text hown (hts _ kw_220) (hts _ kw_41) (hts _ kw_3) hK hW hS hA (ci := 0) (C := "SecretRows$Text") (T := T_Text) (N := 2) rfl (fun j hj => by rcases (show j = 0 ∨ j = 1 by omega) with rfl | rfl <;> rfl) (Nat.le_of_ble_eq_true rfl) (Nat.le_of_ble_eq_true rfl) hz_2 dValue_turned_0 (fun H hW hS => ?_)
  refine W.cs (cells' := 1) (slots' := 2) rfl rfl ?_
  refine lv_dup hx hb dValue_turned_3 rfl ?_
  refine lv_aload_n hx hb dValue_turned_4 rfl (lv_at hl 0 rfl) ?_
  replace hf := g_bd hf
  obtain ⟨_, hi_3, hf⟩ := hf
  replace hf := g_bps hf
  obtain ⟨v_5, z_4, hz_4, hf⟩ := hf
  refine g_goi (g_rV (As := []) (rest := [.ref a_1, .ref a_1]) ⟨hx, hb, hml, hown, hts⟩ (mText_length l D A n _ _ a0 _ hz_4) (cwV 0 hts (gi_V kw_221 kw_184 kw_185 kw_3 kw_186) rfl rfl rfl ⟨rfl, hdText_length⟩ ⟨Nat.le_of_ble_eq_true rfl, Nat.le_of_ble_eq_true rfl⟩) hK hW hS hA (ci := 0) (T := T_Text) (N := 2) rfl hi_3 rfl hl.1 rfl (Nat.le_of_ble_eq_true rfl) dValue_turned_5 ⟨Nat.le_of_ble_eq_true rfl, Nat.le_of_ble_eq_true rfl⟩) hS (fun H locs hW hS => ?_)
  replace hf := g_bd hf
  obtain ⟨z_6, hz_6, hf⟩ := hf
  refine g_gov (g_rI (As := [.int v_5]) (rest := [.ref a_1]) ⟨hx, hb, hml, hown, hts⟩ (mText_init l D A n _ _ a_1 v_5 hz_6) (cwI 1 hts (gi_I kw_44) rfl rfl rfl (hts _ kw_3) (hts _ kw_222) (hts _ kw_43) rfl hdText_init ⟨Nat.le_of_ble_eq_true rfl, Nat.le_of_ble_eq_true rfl⟩) hK hW hS hA rfl hl.1 rfl (Nat.le_of_ble_eq_true rfl) dValue_turned_8 ⟨Nat.le_of_ble_eq_true rfl, Nat.le_of_ble_eq_true rfl⟩) hS (fun H locs hW hS => ?_)
  refine W.cs (cells' := 2) (slots' := 302) rfl rfl ?_
  refine lv_astore_n (lv' := [(1, .ref a_1), (0, .ref a0)]) hx hb dValue_turned_11 rfl hl (by decide) rfl (fun _ hl1 => ?_)
  clear hl
  have hl := hl1
  clear hl1
  refine lv_aload_n hx hb dValue_turned_12 rfl (lv_at hl 1 rfl) ?_
  replace hf := g_bd hf
  obtain ⟨_, hi_7, hf⟩ := hf
  replace hf := g_bps hf
  obtain ⟨v_9, z_8, hz_8, hf⟩ := hf
  refine g_goi (g_rV (As := []) (rest := []) ⟨hx, hb, hml, hown, hts⟩ (mText_length l D A n _ _ a0 _ hz_8) (cwV 0 hts (gi_V kw_221 kw_184 kw_185 kw_3 kw_186) rfl rfl rfl ⟨rfl, hdText_length⟩ ⟨Nat.le_of_ble_eq_true rfl, Nat.le_of_ble_eq_true rfl⟩) hK hW hS hA (ci := 0) (T := T_Text) (N := 2) rfl hi_7 rfl hl.1 rfl (Nat.le_of_ble_eq_true rfl) dValue_turned_13 ⟨Nat.le_of_ble_eq_true rfl, Nat.le_of_ble_eq_true rfl⟩) hS (fun H locs hW hS => ?_)
  refine lv_iconst (v := 1) hx hb dValue_turned_16 (by decide) ?_
  refine lv_isub hx hb dValue_turned_17 ?_
  refine lv_istore_n (lv' := [(2, .int (v_9 - 1)), (1, .ref a_1), (0, .ref a0)]) hx hb dValue_turned_18 rfl hl (by decide) rfl (fun _ hl1 => ?_)
  clear hl
  have hl := hl1
  clear hl1
  exact bValue_turned_19 C n n a0 a_1 (v_9 - 1) _ _ _ _ hf hW hS (lv_sub hl [2, 1, 0] rfl)

def fValue_digit (n : Nat) (i0 : Int32) (z : gS) : Option (Int32 × gS) :=
    if 10 ≤ i0 then (
    some (((97 + i0) - 10), z))
    else (
    some ((48 + i0), z))
set_option maxHeartbeats 4000000 in
set_option maxRecDepth 100000 in
theorem mValue_digit (l : Launch) (D : va_G) (A : Nat → Prop) (n : Nat) (z z' : gS) (i0 : Int32) (r : Int32) (hf : fValue_digit n i0 z = some (r, z')) : Met l yValue_digit wsValue_digit ({ frames := 0, cells := 0, slots := 0, locals := 0 }) (g_P D vwCl gNN gOO A z [.int i0]) (g_Qi D vwCl A r z') 0 0 A := by
  refine Met.ofW (cc := cValue_digit) (maxL := 1) (ret := (some .int)) (by decide) rfl ?_
  intro p e s m args below meth c s₁ B hml hv
  obtain ⟨rfl, hW, hK, hA0⟩ := hv
  have C : g_C p s m meth c _ cValue_digit 1 (some .int) "SecretRows$Value" gW D vwCl gNN gOO A := ⟨B.exec, B.bytes, B.returns, hml, findClass_of_methodNamed B.named, fun w hw => atoms_spec (ws := wsValue_digit) B.pre w (List.mem_cons_of_mem _ hw), B.notSynchronized, hK, fun q hq => hA0 q (by rw [← hW.1]; exact hq)⟩
  have hS : va_S A s.heap s.heap [] := va_S.rf
  have hl := lv_entry ([.int i0]) (n := 1) (Nat.le_of_ble_eq_true rfl)
  rw [lg_entry_eq]
  generalize (lg_sl ([.int i0]) ++ List.replicate (1 - (lg_sl ([.int i0])).length) Slot.unset).toArray = ls at hl ⊢
  have hl : lv_has ls 1 [(0, .int i0)] := hl
  obtain ⟨hx, hb, hr, hml, hown, hts, hlocks, hK, hA⟩ := id C
  unfold fValue_digit at hf
  refine lv_iload_n hx hb dValue_digit_0 rfl (lv_at hl 0 rfl) ?_
  refine lv_bipush (v := 10) hx hb dValue_digit_1 (by decide) ?_
  refine lv_icmp_ge (tgt := 13) hx hb dValue_digit_3 (by decide) (fun c_1 => ?_) (fun c_1 => ?_)
  · replace hf := g_it c_1 hf
    refine lv_bipush (v := 97) hx hb dValue_digit_13 (by decide) ?_
    refine lv_iload_n hx hb dValue_digit_15 rfl (lv_at hl 0 rfl) ?_
    refine lv_iadd hx hb dValue_digit_16 ?_
    refine lv_bipush (v := 10) hx hb dValue_digit_17 (by decide) ?_
    refine lv_isub hx hb dValue_digit_19 ?_
    cases hf
    exact g_reti hx hb hr hlocks hW hS (Nat.le_of_ble_eq_true rfl) (Nat.le_of_ble_eq_true rfl) dValue_digit_20
  · replace hf := g_if c_1 hf
    refine lv_bipush (v := 48) hx hb dValue_digit_6 (by decide) ?_
    refine lv_iload_n hx hb dValue_digit_8 rfl (lv_at hl 0 rfl) ?_
    refine lv_iadd hx hb dValue_digit_9 ?_
    refine lv_goto (tgt := 20) hx hb dValue_digit_10 (by decide) ?_
    cases hf
    exact g_reti hx hb hr hlocks hW hS (Nat.le_of_ble_eq_true rfl) (Nat.le_of_ble_eq_true rfl) dValue_digit_20

def fValue_codesOf_L16 (n : Nat) : Nat → Nat → Nat → Int32 → gS → Option (Option Nat × gS)
  | 0, _, _, _, _ => none
  | k + 1, a0b, a1b, i2b, z =>
    (g_is z a0b 0).bind fun _ =>
    g_bp (fText_length n a0b z) fun v_9 z_8 =>
    if v_9 ≤ i2b then (
    some (some a1b, z_8))
    else (
    (g_is z_8 a0b 0).bind fun _ =>
    g_bp (fText_at n a0b i2b z_8) fun v_13 z_12 =>
    g_bp (fValue_digit n (v_13 >>> (4 &&& 31)) z_12) fun v_15 z_14 =>
    (g_is z_14 a1b 0).bind fun _ =>
    g_bp (fText_add n a1b v_15 z_14) fun v_18 z_17 =>
    (g_is z_17 a0b 0).bind fun _ =>
    g_bp (fText_at n a0b i2b z_17) fun v_21 z_20 =>
    g_bp (fValue_digit n (v_21 &&& 15) z_20) fun v_23 z_22 =>
    (g_is z_22 a1b 0).bind fun _ =>
    g_bp (fText_add n a1b v_23 z_22) fun v_26 z_25 =>
    fValue_codesOf_L16 n k a0b a1b (i2b + 1) z_25)
set_option maxHeartbeats 4000000 in
set_option maxRecDepth 100000 in
theorem bValue_codesOf_16 {p : Program} {l : Launch} {e : Env} {s : State} {m : MethodId} {args : Array Value} {below : List Frame} {meth : Method} {c : Code} {D : va_G} {A : Nat → Prop} (C : g_C p s m meth c args cValue_codesOf 3 (some (.object "SecretRows$Text")) "SecretRows$Value" gW D vwCl gNN gOO A) (n : Nat) {r : Option Nat} {z' : gS} : ∀ k : Nat, ∀ (a0b : Nat) (a1b : Nat) (i2b : Int32) (z : gS) (H : Heap) (locs : List Loc) (ls : Array Slot), fValue_codesOf_L16 n k a0b a1b i2b z = some (r, z') → g_W D vwCl A z s H → va_S A s.heap H locs → lv_has ls 3 [(0, .ref a0b), (1, .ref a1b), (2, .int i2b)] → W p l e (headSpec wsValue_codesOf ({ frames := 2, cells := 2, slots := 302, locals := 36 })).room s m args below meth c H locs 2 302 (MQ below (g_Qq D vwCl A r z') args s 2 302 A) (F0 m 16 ls []) := by
  obtain ⟨hx, hb, hr, hml, hown, hts, hlocks, hK, hA⟩ := id C
  intro k
  induction k with
  | zero =>
    intro a0b a1b i2b z H locs ls hf
    have hf : (none : Option (Option Nat × gS)) = some _ := hf
    cases hf
  | succ k ih =>
    intro a0b a1b i2b z H locs ls hf hW hS hl
    rw [fValue_codesOf_L16] at hf
    refine lv_iload_n hx hb dValue_codesOf_16 rfl (lv_at hl 2 rfl) ?_
    refine lv_aload_n hx hb dValue_codesOf_17 rfl (lv_at hl 0 rfl) ?_
    replace hf := g_bd hf
    obtain ⟨_, hi_7, hf⟩ := hf
    replace hf := g_bps hf
    obtain ⟨v_9, z_8, hz_8, hf⟩ := hf
    refine g_goi (g_rV (As := []) (rest := [.int i2b]) ⟨hx, hb, hml, hown, hts⟩ (mText_length l D A n _ _ a0b _ hz_8) (cwV 0 hts (gi_V kw_221 kw_184 kw_185 kw_3 kw_186) rfl rfl rfl ⟨rfl, hdText_length⟩ ⟨Nat.le_of_ble_eq_true rfl, Nat.le_of_ble_eq_true rfl⟩) hK hW hS hA (ci := 0) (T := T_Text) (N := 2) rfl hi_7 rfl hl.1 rfl (Nat.le_of_ble_eq_true rfl) dValue_codesOf_18 ⟨Nat.le_of_ble_eq_true rfl, Nat.le_of_ble_eq_true rfl⟩) hS (fun H locs hW hS => ?_)
    refine lv_icmp_ge (tgt := 61) hx hb dValue_codesOf_21 (by decide) (fun c_10 => ?_) (fun c_10 => ?_)
    · replace hf := g_it c_10 hf
      refine lv_aload_n hx hb dValue_codesOf_61 rfl (lv_at hl 1 rfl) ?_
      cases hf
      exact g_reta (v := some a1b) hx hb hr (Or.inl ⟨_, rfl⟩) hlocks hW hS (Nat.le_of_ble_eq_true rfl) (Nat.le_of_ble_eq_true rfl) dValue_codesOf_62
    · replace hf := g_if c_10 hf
      refine lv_aload_n hx hb dValue_codesOf_24 rfl (lv_at hl 1 rfl) ?_
      refine lv_aload_n hx hb dValue_codesOf_25 rfl (lv_at hl 0 rfl) ?_
      refine lv_iload_n hx hb dValue_codesOf_26 rfl (lv_at hl 2 rfl) ?_
      replace hf := g_bd hf
      obtain ⟨_, hi_11, hf⟩ := hf
      replace hf := g_bps hf
      obtain ⟨v_13, z_12, hz_12, hf⟩ := hf
      refine g_goi (g_rV (As := [.int i2b]) (rest := [.ref a1b]) ⟨hx, hb, hml, hown, hts⟩ (mText_at l D A n _ _ a0b i2b _ hz_12) (cwV 1 hts (gi_V kw_231 kw_192 kw_193 kw_3 kw_194) rfl rfl rfl ⟨rfl, hdText_at⟩ ⟨Nat.le_of_ble_eq_true rfl, Nat.le_of_ble_eq_true rfl⟩) hK hW hS hA (ci := 0) (T := T_Text) (N := 2) rfl hi_11 rfl hl.1 rfl (Nat.le_of_ble_eq_true rfl) dValue_codesOf_27 ⟨Nat.le_of_ble_eq_true rfl, Nat.le_of_ble_eq_true rfl⟩) hS (fun H locs hW hS => ?_)
      refine lv_iconst (v := 4) hx hb dValue_codesOf_30 (by decide) ?_
      refine lv_ishr hx hb dValue_codesOf_31 ?_
      replace hf := g_bps hf
      obtain ⟨v_15, z_14, hz_14, hf⟩ := hf
      refine g_goi (g_rS (As := [.int (v_13 >>> (4 &&& 31))]) (rest := [.ref a1b]) ⟨hx, hb, hml, hown, hts⟩ (mValue_digit l D A n _ _ (v_13 >>> (4 &&& 31)) _ hz_14) (cwS 1 hts (gi_S kw_236 kw_237 kw_8 kw_238) rfl rfl rfl ⟨rfl, hdValue_digit⟩ ⟨Nat.le_of_ble_eq_true rfl, Nat.le_of_ble_eq_true rfl⟩) hK hW hS hA rfl hl.1 rfl (Nat.le_of_ble_eq_true rfl) dValue_codesOf_32 ⟨Nat.le_of_ble_eq_true rfl, Nat.le_of_ble_eq_true rfl⟩) hS (fun H locs hW hS => ?_)
      replace hf := g_bd hf
      obtain ⟨_, hi_16, hf⟩ := hf
      replace hf := g_bps hf
      obtain ⟨v_18, z_17, hz_17, hf⟩ := hf
      refine g_goi (g_rV (As := [.int v_15]) (rest := []) ⟨hx, hb, hml, hown, hts⟩ (mText_add l D A n _ _ a1b v_15 _ hz_17) (cwV 1 hts (gi_V kw_232 kw_163 kw_164 kw_3 kw_165) rfl rfl rfl ⟨rfl, hdText_add⟩ ⟨Nat.le_of_ble_eq_true rfl, Nat.le_of_ble_eq_true rfl⟩) hK hW hS hA (ci := 0) (T := T_Text) (N := 2) rfl hi_16 rfl hl.1 rfl (Nat.le_of_ble_eq_true rfl) dValue_codesOf_35 ⟨Nat.le_of_ble_eq_true rfl, Nat.le_of_ble_eq_true rfl⟩) hS (fun H locs hW hS => ?_)
      refine lv_pop hx hb dValue_codesOf_38 rfl ?_
      refine lv_aload_n hx hb dValue_codesOf_39 rfl (lv_at hl 1 rfl) ?_
      refine lv_aload_n hx hb dValue_codesOf_40 rfl (lv_at hl 0 rfl) ?_
      refine lv_iload_n hx hb dValue_codesOf_41 rfl (lv_at hl 2 rfl) ?_
      replace hf := g_bd hf
      obtain ⟨_, hi_19, hf⟩ := hf
      replace hf := g_bps hf
      obtain ⟨v_21, z_20, hz_20, hf⟩ := hf
      refine g_goi (g_rV (As := [.int i2b]) (rest := [.ref a1b]) ⟨hx, hb, hml, hown, hts⟩ (mText_at l D A n _ _ a0b i2b _ hz_20) (cwV 1 hts (gi_V kw_231 kw_192 kw_193 kw_3 kw_194) rfl rfl rfl ⟨rfl, hdText_at⟩ ⟨Nat.le_of_ble_eq_true rfl, Nat.le_of_ble_eq_true rfl⟩) hK hW hS hA (ci := 0) (T := T_Text) (N := 2) rfl hi_19 rfl hl.1 rfl (Nat.le_of_ble_eq_true rfl) dValue_codesOf_42 ⟨Nat.le_of_ble_eq_true rfl, Nat.le_of_ble_eq_true rfl⟩) hS (fun H locs hW hS => ?_)
      refine lv_bipush (v := 15) hx hb dValue_codesOf_45 (by decide) ?_
      refine lv_iand hx hb dValue_codesOf_47 ?_
      replace hf := g_bps hf
      obtain ⟨v_23, z_22, hz_22, hf⟩ := hf
      refine g_goi (g_rS (As := [.int (v_21 &&& 15)]) (rest := [.ref a1b]) ⟨hx, hb, hml, hown, hts⟩ (mValue_digit l D A n _ _ (v_21 &&& 15) _ hz_22) (cwS 1 hts (gi_S kw_236 kw_237 kw_8 kw_238) rfl rfl rfl ⟨rfl, hdValue_digit⟩ ⟨Nat.le_of_ble_eq_true rfl, Nat.le_of_ble_eq_true rfl⟩) hK hW hS hA rfl hl.1 rfl (Nat.le_of_ble_eq_true rfl) dValue_codesOf_48 ⟨Nat.le_of_ble_eq_true rfl, Nat.le_of_ble_eq_true rfl⟩) hS (fun H locs hW hS => ?_)
      replace hf := g_bd hf
      obtain ⟨_, hi_24, hf⟩ := hf
      replace hf := g_bps hf
      obtain ⟨v_26, z_25, hz_25, hf⟩ := hf
      refine g_goi (g_rV (As := [.int v_23]) (rest := []) ⟨hx, hb, hml, hown, hts⟩ (mText_add l D A n _ _ a1b v_23 _ hz_25) (cwV 1 hts (gi_V kw_232 kw_163 kw_164 kw_3 kw_165) rfl rfl rfl ⟨rfl, hdText_add⟩ ⟨Nat.le_of_ble_eq_true rfl, Nat.le_of_ble_eq_true rfl⟩) hK hW hS hA (ci := 0) (T := T_Text) (N := 2) rfl hi_24 rfl hl.1 rfl (Nat.le_of_ble_eq_true rfl) dValue_codesOf_51 ⟨Nat.le_of_ble_eq_true rfl, Nat.le_of_ble_eq_true rfl⟩) hS (fun H locs hW hS => ?_)
      refine lv_pop hx hb dValue_codesOf_54 rfl ?_
      refine lv_iinc (v := (i2b + 1)) (lv' := [(2, .int (i2b + 1)), (0, .ref a0b), (1, .ref a1b)]) hx hb dValue_codesOf_55 hl (k := 2) rfl rfl (by decide) rfl (fun _ hl1 => ?_)
      clear hl
      have hl := hl1
      clear hl1
      refine lv_goto (tgt := 16) hx hb dValue_codesOf_58 (by decide) ?_
      exact ih a0b a1b (i2b + 1) _ _ _ _ hf hW hS (lv_sub hl [1, 2, 0] rfl)
def fValue_codesOf (n : Nat) (a0 : Nat) (z : gS) : Option (Option Nat × gS) :=
    g_bp (g_nwO z 0 [.null, .int 0]) fun a_1 z_2 =>
    (g_is z_2 a0 0).bind fun _ =>
    g_bp (fText_length n a0 z_2) fun v_5 z_4 =>
    (fText_init n a_1 (2 * v_5) z_4).bind fun z_6 =>
    fValue_codesOf_L16 n n a0 a_1 0 z_6
set_option maxHeartbeats 4000000 in
set_option maxRecDepth 100000 in
theorem mValue_codesOf (l : Launch) (D : va_G) (A : Nat → Prop) (n : Nat) (z z' : gS) (a0 : Nat) (r : Option Nat) (hf : fValue_codesOf n a0 z = some (r, z')) : Met l yValue_codesOf wsValue_codesOf ({ frames := 2, cells := 2, slots := 302, locals := 36 }) (g_P D vwCl gNN gOO A z [.ref a0]) (g_Qq D vwCl A r z') 2 302 A := by
  refine Met.ofW (cc := cValue_codesOf) (maxL := 3) (ret := (some (.object "SecretRows$Text"))) (by decide) rfl ?_
  intro p e s m args below meth c s₁ B hml hv
  obtain ⟨rfl, hW, hK, hA0⟩ := hv
  have C : g_C p s m meth c _ cValue_codesOf 3 (some (.object "SecretRows$Text")) "SecretRows$Value" gW D vwCl gNN gOO A := ⟨B.exec, B.bytes, B.returns, hml, findClass_of_methodNamed B.named, fun w hw => atoms_spec (ws := wsValue_codesOf) B.pre w (List.mem_cons_of_mem _ hw), B.notSynchronized, hK, fun q hq => hA0 q (by rw [← hW.1]; exact hq)⟩
  have hS : va_S A s.heap s.heap [] := va_S.rf
  have hl := lv_entry ([.ref a0]) (n := 3) (Nat.le_of_ble_eq_true rfl)
  rw [lg_entry_eq]
  generalize (lg_sl ([.ref a0]) ++ List.replicate (3 - (lg_sl ([.ref a0])).length) Slot.unset).toArray = ls at hl ⊢
  have hl : lv_has ls 3 [(0, .ref a0)] := hl
  obtain ⟨hx, hb, hr, hml, hown, hts, hlocks, hK, hA⟩ := id C
  unfold fValue_codesOf at hf
  replace hf := g_bps hf
  obtain ⟨a_1, z_2, hz_2, hf⟩ := hf
  refine g_newO hx hb hts in_Text ty_Text tyok_Text hown (hts _ kw_220) (hts _ kw_41) (hts _ kw_3) hK hW hS hA (ci := 0) (C := "SecretRows$Text") (T := T_Text) (N := 2) rfl (fun j hj => by rcases (show j = 0 ∨ j = 1 by omega) with rfl | rfl <;> rfl) (Nat.le_of_ble_eq_true rfl) (Nat.le_of_ble_eq_true rfl) hz_2 dValue_codesOf_0 (fun H hW hS => ?_)
  refine W.cs (cells' := 1) (slots' := 2) rfl rfl ?_
  refine lv_dup hx hb dValue_codesOf_3 rfl ?_
  refine lv_iconst (v := 2) hx hb dValue_codesOf_4 (by decide) ?_
  refine lv_aload_n hx hb dValue_codesOf_5 rfl (lv_at hl 0 rfl) ?_
  replace hf := g_bd hf
  obtain ⟨_, hi_3, hf⟩ := hf
  replace hf := g_bps hf
  obtain ⟨v_5, z_4, hz_4, hf⟩ := hf
  refine g_goi (g_rV (As := []) (rest := [.int 2, .ref a_1, .ref a_1]) ⟨hx, hb, hml, hown, hts⟩ (mText_length l D A n _ _ a0 _ hz_4) (cwV 0 hts (gi_V kw_221 kw_184 kw_185 kw_3 kw_186) rfl rfl rfl ⟨rfl, hdText_length⟩ ⟨Nat.le_of_ble_eq_true rfl, Nat.le_of_ble_eq_true rfl⟩) hK hW hS hA (ci := 0) (T := T_Text) (N := 2) rfl hi_3 rfl hl.1 rfl (Nat.le_of_ble_eq_true rfl) dValue_codesOf_6 ⟨Nat.le_of_ble_eq_true rfl, Nat.le_of_ble_eq_true rfl⟩) hS (fun H locs hW hS => ?_)
  refine lv_imul hx hb dValue_codesOf_9 ?_
  replace hf := g_bd hf
  obtain ⟨z_6, hz_6, hf⟩ := hf
  refine g_gov (g_rI (As := [.int (2 * v_5)]) (rest := [.ref a_1]) ⟨hx, hb, hml, hown, hts⟩ (mText_init l D A n _ _ a_1 (2 * v_5) hz_6) (cwI 1 hts (gi_I kw_44) rfl rfl rfl (hts _ kw_3) (hts _ kw_222) (hts _ kw_43) rfl hdText_init ⟨Nat.le_of_ble_eq_true rfl, Nat.le_of_ble_eq_true rfl⟩) hK hW hS hA rfl hl.1 rfl (Nat.le_of_ble_eq_true rfl) dValue_codesOf_10 ⟨Nat.le_of_ble_eq_true rfl, Nat.le_of_ble_eq_true rfl⟩) hS (fun H locs hW hS => ?_)
  refine W.cs (cells' := 2) (slots' := 302) rfl rfl ?_
  refine lv_astore_n (lv' := [(1, .ref a_1), (0, .ref a0)]) hx hb dValue_codesOf_13 rfl hl (by decide) rfl (fun _ hl1 => ?_)
  clear hl
  have hl := hl1
  clear hl1
  refine lv_iconst (v := 0) hx hb dValue_codesOf_14 (by decide) ?_
  refine lv_istore_n (lv' := [(2, .int 0), (1, .ref a_1), (0, .ref a0)]) hx hb dValue_codesOf_15 rfl hl (by decide) rfl (fun _ hl1 => ?_)
  clear hl
  have hl := hl1
  clear hl1
  exact bValue_codesOf_16 C n n a0 a_1 0 _ _ _ _ hf hW hS (lv_sub hl [2, 1, 0] rfl)

def fValue_init (n : Nat) (a0 : Nat) (i1 : Int32) (a2 : Nat) (z : gS) : Option (gS) :=
    (g_pF z a0 1 0 (.int i1)).bind fun z_1 =>
    g_bp (g_nwO z_1 0 [.null, .int 0]) fun a_2 z_3 =>
    (g_is z_3 a2 0).bind fun _ =>
    g_bp (fText_length n a2 z_3) fun v_6 z_5 =>
    (fText_init n a_2 v_6 z_5).bind fun z_7 =>
    (g_pF z_7 a0 1 1 (.ref a_2)).bind fun z_8 =>
    (g_fR z_8 a0 1 1).bind fun r_9 =>
    r_9.bind fun a_10 =>
    (g_is z_8 a_10 0).bind fun _ =>
    (fText_addAll n a_10 a2 z_8).bind fun z_12 =>
    g_bp (fValue_turned n a2 z_12) fun r_14 z_13 =>
    (g_pF z_13 a0 1 2 (va_rf r_14)).bind fun z_15 =>
    g_bp (fValue_codesOf n a2 z_15) fun r_17 z_16 =>
    (g_pF z_16 a0 1 3 (va_rf r_17)).bind fun z_18 =>
    some z_18
set_option maxHeartbeats 4000000 in
set_option maxRecDepth 100000 in
theorem mValue_init (l : Launch) (D : va_G) (A : Nat → Prop) (n : Nat) (z z' : gS) (a0 : Nat) (i1 : Int32) (a2 : Nat) (hf : fValue_init n a0 i1 a2 z = some z') : Met l yValue_init wsValue_init ({ frames := 3, cells := 6, slots := 906, locals := 58 }) (g_P D vwCl gNN gOO A z [.ref a0, .int i1, .ref a2]) (g_Qv D vwCl A z') 6 906 A := by
  refine Met.ofW (cc := cValue_init) (maxL := 3) (ret := none) (by decide) rfl ?_
  intro p e s m args below meth c s₁ B hml hv
  obtain ⟨rfl, hW, hK, hA0⟩ := hv
  have hin : meth.name = "<init>" := (name_of_methodNamed B.named B.method).1
  have C : g_C p s m meth c _ cValue_init 3 none "SecretRows$Value" gW D vwCl gNN gOO A := ⟨B.exec, B.bytes, B.returns, hml, findClass_of_methodNamed B.named, fun w hw => atoms_spec (ws := wsValue_init) B.pre w (List.mem_cons_of_mem _ hw), B.notSynchronized, hK, fun q hq => hA0 q (by rw [← hW.1]; exact hq)⟩
  have hS : va_S A s.heap s.heap [] := va_S.rf
  have hl := lv_entry ([.ref a0, .int i1, .ref a2]) (n := 3) (Nat.le_of_ble_eq_true rfl)
  rw [lg_entry_eq]
  generalize (lg_sl ([.ref a0, .int i1, .ref a2]) ++ List.replicate (3 - (lg_sl ([.ref a0, .int i1, .ref a2])).length) Slot.unset).toArray = ls at hl ⊢
  have hl : lv_has ls 3 [(0, .ref a0), (1, .int i1), (2, .ref a2)] := hl
  obtain ⟨hx, hb, hr, hml, hown, hts, hlocks, hK, hA⟩ := id C
  unfold fValue_init at hf
  refine lv_aload_n hx hb dValue_init_0 rfl (lv_at hl 0 rfl) ?_
  refine W.objInit hx hb hown (hts _ kw_219) (hts _ kw_18) (hts _ kw_19) rfl (by rw [hml]; exact hl.1) rfl dValue_init_1 (Nat.le_of_ble_eq_true rfl) (Nat.le_of_ble_eq_true rfl) ?_
  refine W.eq (g2 := F0 m 4 _ []) rfl ?_
  refine lv_aload_n hx hb dValue_init_4 rfl (lv_at hl 0 rfl) ?_
  refine lv_iload_n hx hb dValue_init_5 rfl (lv_at hl 1 rfl) ?_
  replace hf := g_bd hf
  obtain ⟨z_1, hz_1, hf⟩ := hf
  refine g_putF hx hb hts in_Value ty_Value tyok_Value nm_Value hown hK hW hS (ci := 1) (C := "SecretRows$Value") (T := T_Value) (N := 4) rfl (k := 0) (by decide) (hts _ kw_239) (fun _ h9 => h9) rfl hin rfl (ty := .int) (by decide +kernel) rfl rfl hz_1 dValue_init_6 (fun H locs hW hS => ?_)
  refine lv_aload_n hx hb dValue_init_9 rfl (lv_at hl 0 rfl) ?_
  replace hf := g_bps hf
  obtain ⟨a_2, z_3, hz_3, hf⟩ := hf
  refine g_newO hx hb hts in_Text ty_Text tyok_Text hown (hts _ kw_220) (hts _ kw_41) (hts _ kw_3) hK hW hS hA (ci := 0) (C := "SecretRows$Text") (T := T_Text) (N := 2) rfl (fun j hj => by rcases (show j = 0 ∨ j = 1 by omega) with rfl | rfl <;> rfl) (Nat.le_of_ble_eq_true rfl) (Nat.le_of_ble_eq_true rfl) hz_3 dValue_init_10 (fun H hW hS => ?_)
  refine W.cs (cells' := 1) (slots' := 2) rfl rfl ?_
  refine lv_dup hx hb dValue_init_13 rfl ?_
  refine lv_aload_n hx hb dValue_init_14 rfl (lv_at hl 2 rfl) ?_
  replace hf := g_bd hf
  obtain ⟨_, hi_4, hf⟩ := hf
  replace hf := g_bps hf
  obtain ⟨v_6, z_5, hz_5, hf⟩ := hf
  refine g_goi (g_rV (As := []) (rest := [.ref a_2, .ref a_2, .ref a0]) ⟨hx, hb, hml, hown, hts⟩ (mText_length l D A n _ _ a2 _ hz_5) (cwV 0 hts (gi_V kw_221 kw_184 kw_185 kw_3 kw_186) rfl rfl rfl ⟨rfl, hdText_length⟩ ⟨Nat.le_of_ble_eq_true rfl, Nat.le_of_ble_eq_true rfl⟩) hK hW hS hA (ci := 0) (T := T_Text) (N := 2) rfl hi_4 rfl hl.1 rfl (Nat.le_of_ble_eq_true rfl) dValue_init_15 ⟨Nat.le_of_ble_eq_true rfl, Nat.le_of_ble_eq_true rfl⟩) hS (fun H locs hW hS => ?_)
  replace hf := g_bd hf
  obtain ⟨z_7, hz_7, hf⟩ := hf
  refine g_gov (g_rI (As := [.int v_6]) (rest := [.ref a_2, .ref a0]) ⟨hx, hb, hml, hown, hts⟩ (mText_init l D A n _ _ a_2 v_6 hz_7) (cwI 1 hts (gi_I kw_44) rfl rfl rfl (hts _ kw_3) (hts _ kw_222) (hts _ kw_43) rfl hdText_init ⟨Nat.le_of_ble_eq_true rfl, Nat.le_of_ble_eq_true rfl⟩) hK hW hS hA rfl hl.1 rfl (Nat.le_of_ble_eq_true rfl) dValue_init_18 ⟨Nat.le_of_ble_eq_true rfl, Nat.le_of_ble_eq_true rfl⟩) hS (fun H locs hW hS => ?_)
  refine W.cs (cells' := 2) (slots' := 302) rfl rfl ?_
  replace hf := g_bd hf
  obtain ⟨z_8, hz_8, hf⟩ := hf
  refine g_putF hx hb hts in_Value ty_Value tyok_Value nm_Value hown hK hW hS (ci := 1) (C := "SecretRows$Value") (T := T_Value) (N := 4) rfl (k := 1) (by decide) (hts _ kw_241) (fun _ h9 => h9) rfl hin rfl (ty := (.object "SecretRows$Text")) (by decide +kernel) rfl rfl hz_8 dValue_init_21 (fun H locs hW hS => ?_)
  refine lv_aload_n hx hb dValue_init_24 rfl (lv_at hl 0 rfl) ?_
  replace hf := g_bd hf
  obtain ⟨r_9, hr_9, hf⟩ := hf
  refine g_getR hx hb hts in_Value hown hK hW (ci := 1) (C := "SecretRows$Value") (T := T_Value) (N := 4) rfl (k := 1) (by decide) (hts _ kw_241) (fun _ h9 => h9) hr_9 dValue_init_25 ?_
  refine lv_aload_n hx hb dValue_init_28 rfl (lv_at hl 2 rfl) ?_
  replace hf := g_bd hf
  obtain ⟨a_10, ea_10, hf⟩ := hf
  subst ea_10
  refine W.eq (g2 := F0 m 29 _ [.ref a2, .ref a_10]) rfl ?_
  replace hf := g_bd hf
  obtain ⟨_, hi_11, hf⟩ := hf
  replace hf := g_bd hf
  obtain ⟨z_12, hz_12, hf⟩ := hf
  refine g_gov (g_rV (As := [.ref a2]) (rest := []) ⟨hx, hb, hml, hown, hts⟩ (mText_addAll l D A n _ _ a_10 a2 hz_12) (cwV 1 hts (gi_V kw_223 kw_224 kw_225 kw_3 kw_226) rfl rfl rfl ⟨rfl, hdText_addAll⟩ ⟨Nat.le_of_ble_eq_true rfl, Nat.le_of_ble_eq_true rfl⟩) hK hW hS hA (ci := 0) (T := T_Text) (N := 2) rfl hi_11 rfl hl.1 rfl (Nat.le_of_ble_eq_true rfl) dValue_init_29 ⟨Nat.le_of_ble_eq_true rfl, Nat.le_of_ble_eq_true rfl⟩) hS (fun H locs hW hS => ?_)
  refine lv_aload_n hx hb dValue_init_32 rfl (lv_at hl 0 rfl) ?_
  refine lv_aload_n hx hb dValue_init_33 rfl (lv_at hl 2 rfl) ?_
  replace hf := g_bps hf
  obtain ⟨r_14, z_13, hz_13, hf⟩ := hf
  refine g_goq (g_rS (As := [.ref a2]) (rest := [.ref a0]) ⟨hx, hb, hml, hown, hts⟩ (mValue_turned l D A n _ _ a2 _ hz_13) (cwS 1 hts (gi_S kw_228 kw_229 kw_8 kw_230) rfl rfl rfl ⟨rfl, hdValue_turned⟩ ⟨Nat.le_of_ble_eq_true rfl, Nat.le_of_ble_eq_true rfl⟩) hK hW hS hA rfl hl.1 rfl (Nat.le_of_ble_eq_true rfl) dValue_init_34 ⟨Nat.le_of_ble_eq_true rfl, Nat.le_of_ble_eq_true rfl⟩) hS (fun H locs hW hS => ?_)
  refine W.cs (cells' := 4) (slots' := 604) rfl rfl ?_
  replace hf := g_bd hf
  obtain ⟨z_15, hz_15, hf⟩ := hf
  refine g_putF hx hb hts in_Value ty_Value tyok_Value nm_Value hown hK hW hS (ci := 1) (C := "SecretRows$Value") (T := T_Value) (N := 4) rfl (k := 2) (by decide) (hts _ kw_245) (fun _ h9 => h9) rfl hin rfl (ty := (.object "SecretRows$Text")) (by decide +kernel) (g_nar _ _).1 (g_nar _ _).2 hz_15 dValue_init_37 (fun H locs hW hS => ?_)
  refine lv_aload_n hx hb dValue_init_40 rfl (lv_at hl 0 rfl) ?_
  refine lv_aload_n hx hb dValue_init_41 rfl (lv_at hl 2 rfl) ?_
  replace hf := g_bps hf
  obtain ⟨r_17, z_16, hz_16, hf⟩ := hf
  refine g_goq (g_rS (As := [.ref a2]) (rest := [.ref a0]) ⟨hx, hb, hml, hown, hts⟩ (mValue_codesOf l D A n _ _ a2 _ hz_16) (cwS 1 hts (gi_S kw_233 kw_234 kw_8 kw_235) rfl rfl rfl ⟨rfl, hdValue_codesOf⟩ ⟨Nat.le_of_ble_eq_true rfl, Nat.le_of_ble_eq_true rfl⟩) hK hW hS hA rfl hl.1 rfl (Nat.le_of_ble_eq_true rfl) dValue_init_42 ⟨Nat.le_of_ble_eq_true rfl, Nat.le_of_ble_eq_true rfl⟩) hS (fun H locs hW hS => ?_)
  refine W.cs (cells' := 6) (slots' := 906) rfl rfl ?_
  replace hf := g_bd hf
  obtain ⟨z_18, hz_18, hf⟩ := hf
  refine g_putF hx hb hts in_Value ty_Value tyok_Value nm_Value hown hK hW hS (ci := 1) (C := "SecretRows$Value") (T := T_Value) (N := 4) rfl (k := 3) (by decide) (hts _ kw_247) (fun _ h9 => h9) rfl hin rfl (ty := (.object "SecretRows$Text")) (by decide +kernel) (g_nar _ _).1 (g_nar _ _).2 hz_18 dValue_init_45 (fun H locs hW hS => ?_)
  cases hf
  exact g_retv hx hb hr hlocks hW hS (Nat.le_of_ble_eq_true rfl) (Nat.le_of_ble_eq_true rfl) dValue_init_48

def fSecret_rotate (n : Nat) (a0 : Nat) (a1 : Nat) (i2 : Int32) (z : gS) : Option (gS) :=
    (g_fR z a0 2 3).bind fun r_1 =>
    g_n r_1 (
    (g_pF z a0 2 3 (.ref a1)).bind fun z_3 =>
    some z_3) (fun a_2 =>
    (g_fR z a0 2 3).bind fun r_4 =>
    (g_pF z a0 2 4 (va_rf r_4)).bind fun z_5 =>
    (g_pF z_5 a0 2 5 (.int i2)).bind fun z_6 =>
    (g_pF z_6 a0 2 3 (.ref a1)).bind fun z_7 =>
    some z_7)
set_option maxHeartbeats 4000000 in
set_option maxRecDepth 100000 in
theorem mSecret_rotate (l : Launch) (D : va_G) (A : Nat → Prop) (n : Nat) (z z' : gS) (a0 : Nat) (a1 : Nat) (i2 : Int32) (hf : fSecret_rotate n a0 a1 i2 z = some z') : Met l ySecret_rotate wsSecret_rotate ({ frames := 0, cells := 0, slots := 0, locals := 0 }) (g_P D vwCl gNN gOO A z [.ref a0, .ref a1, .int i2]) (g_Qv D vwCl A z') 0 0 A := by
  refine Met.ofW (cc := cSecret_rotate) (maxL := 3) (ret := none) (by decide) rfl ?_
  intro p e s m args below meth c s₁ B hml hv
  obtain ⟨rfl, hW, hK, hA0⟩ := hv
  have C : g_C p s m meth c _ cSecret_rotate 3 none "SecretRows$Secret" gW D vwCl gNN gOO A := ⟨B.exec, B.bytes, B.returns, hml, findClass_of_methodNamed B.named, fun w hw => atoms_spec (ws := wsSecret_rotate) B.pre w (List.mem_cons_of_mem _ hw), B.notSynchronized, hK, fun q hq => hA0 q (by rw [← hW.1]; exact hq)⟩
  have hS : va_S A s.heap s.heap [] := va_S.rf
  have hl := lv_entry ([.ref a0, .ref a1, .int i2]) (n := 3) (Nat.le_of_ble_eq_true rfl)
  rw [lg_entry_eq]
  generalize (lg_sl ([.ref a0, .ref a1, .int i2]) ++ List.replicate (3 - (lg_sl ([.ref a0, .ref a1, .int i2])).length) Slot.unset).toArray = ls at hl ⊢
  have hl : lv_has ls 3 [(0, .ref a0), (1, .ref a1), (2, .int i2)] := hl
  obtain ⟨hx, hb, hr, hml, hown, hts, hlocks, hK, hA⟩ := id C
  unfold fSecret_rotate at hf
  refine lv_aload_n hx hb dSecret_rotate_0 rfl (lv_at hl 0 rfl) ?_
  replace hf := g_bd hf
  obtain ⟨r_1, hr_1, hf⟩ := hf
  refine g_getR hx hb hts in_Secret hown hK hW (ci := 2) (C := "SecretRows$Secret") (T := T_Secret) (N := 7) rfl (k := 3) (by decide) (hts _ kw_136) (fun _ h9 => h9) hr_1 dSecret_rotate_1 ?_
  cases r_1 with
  | none =>
    replace hf := g_n0 hf
    refine W.eq (g2 := F0 m 4 _ [.null]) rfl ?_
    refine lv_ifnullN (tgt := 20) hx hb dSecret_rotate_4 (by decide) ?_
    refine lv_aload_n hx hb dSecret_rotate_20 rfl (lv_at hl 0 rfl) ?_
    refine lv_aload_n hx hb dSecret_rotate_21 rfl (lv_at hl 1 rfl) ?_
    replace hf := g_bd hf
    obtain ⟨z_3, hz_3, hf⟩ := hf
    refine g_put hx hb hts in_Secret ty_Secret tyok_Secret nm_Secret hown hK hW hS (ci := 2) (C := "SecretRows$Secret") (T := T_Secret) (N := 7) rfl (k := 3) (by decide) (hts _ kw_136) (fun _ h9 => h9) rfl (ty := (.object "SecretRows$Value")) (by decide +kernel) rfl rfl hz_3 dSecret_rotate_22 (fun H locs hW hS => ?_)
    cases hf
    exact g_retv hx hb hr hlocks hW hS (Nat.le_of_ble_eq_true rfl) (Nat.le_of_ble_eq_true rfl) dSecret_rotate_25
  | some a_2 =>
    replace hf := g_n1 hf
    refine W.eq (g2 := F0 m 4 _ [.ref a_2]) rfl ?_
    refine lv_ifnull hx hb dSecret_rotate_4 ?_
    refine lv_aload_n hx hb dSecret_rotate_7 rfl (lv_at hl 0 rfl) ?_
    refine lv_aload_n hx hb dSecret_rotate_8 rfl (lv_at hl 0 rfl) ?_
    replace hf := g_bd hf
    obtain ⟨r_4, hr_4, hf⟩ := hf
    refine g_getR hx hb hts in_Secret hown hK hW (ci := 2) (C := "SecretRows$Secret") (T := T_Secret) (N := 7) rfl (k := 3) (by decide) (hts _ kw_136) (fun _ h9 => h9) hr_4 dSecret_rotate_9 ?_
    replace hf := g_bd hf
    obtain ⟨z_5, hz_5, hf⟩ := hf
    refine g_put hx hb hts in_Secret ty_Secret tyok_Secret nm_Secret hown hK hW hS (ci := 2) (C := "SecretRows$Secret") (T := T_Secret) (N := 7) rfl (k := 4) (by decide) (hts _ kw_138) (fun _ h9 => h9) rfl (ty := (.object "SecretRows$Value")) (by decide +kernel) (g_nar _ _).1 (g_nar _ _).2 hz_5 dSecret_rotate_12 (fun H locs hW hS => ?_)
    refine lv_aload_n hx hb dSecret_rotate_15 rfl (lv_at hl 0 rfl) ?_
    refine lv_iload_n hx hb dSecret_rotate_16 rfl (lv_at hl 2 rfl) ?_
    replace hf := g_bd hf
    obtain ⟨z_6, hz_6, hf⟩ := hf
    refine g_put hx hb hts in_Secret ty_Secret tyok_Secret nm_Secret hown hK hW hS (ci := 2) (C := "SecretRows$Secret") (T := T_Secret) (N := 7) rfl (k := 5) (by decide) (hts _ kw_140) (fun _ h9 => h9) rfl (ty := .int) (by decide +kernel) rfl rfl hz_6 dSecret_rotate_17 (fun H locs hW hS => ?_)
    refine lv_aload_n hx hb dSecret_rotate_20 rfl (lv_at hl 0 rfl) ?_
    refine lv_aload_n hx hb dSecret_rotate_21 rfl (lv_at hl 1 rfl) ?_
    replace hf := g_bd hf
    obtain ⟨z_7, hz_7, hf⟩ := hf
    refine g_put hx hb hts in_Secret ty_Secret tyok_Secret nm_Secret hown hK hW hS (ci := 2) (C := "SecretRows$Secret") (T := T_Secret) (N := 7) rfl (k := 3) (by decide) (hts _ kw_136) (fun _ h9 => h9) rfl (ty := (.object "SecretRows$Value")) (by decide +kernel) rfl rfl hz_7 dSecret_rotate_22 (fun H locs hW hS => ?_)
    cases hf
    exact g_retv hx hb hr hlocks hW hS (Nat.le_of_ble_eq_true rfl) (Nat.le_of_ble_eq_true rfl) dSecret_rotate_25

def fMain_setFromTape (n : Nat) (a0 : Nat) (r1 : Option Nat) (i2 : Int32) (z : gS) : Option (Int32 × gS) :=
    g_n r1 (
    some ((-1), z)) (fun a_1 =>
    (g_fI z a_1 2 6).bind fun v_2 =>
    if v_2 = 0 then (
    if i2 < 0 then (
    some ((-1), z))
    else (
    if i2 ≤ 100000 then (
    (g_is z a0 8).bind fun _ =>
    g_bp (fMain_tapeCanBeValue n a0 z) fun v_8 z_7 =>
    if v_8 = 0 then (
    some ((-2), z_7))
    else (
    (g_is z_7 a0 8).bind fun _ =>
    g_bp (fMain_tapeIsHad n a0 z_7) fun v_12 z_11 =>
    if v_12 = 0 then (
    (g_fI z_11 a0 8 9).bind fun v_14 =>
    if v_14 < 24 then (
    g_bp (g_nwO z_11 1 [.int 0, .null, .null, .null]) fun a_16 z_17 =>
    (g_fI z_17 a0 8 9).bind fun v_18 =>
    (g_fR z_17 a0 8 4).bind fun r_19 =>
    r_19.bind fun a_20 =>
    (fValue_init n a_16 v_18 a_20 z_17).bind fun z_21 =>
    (g_fI z_21 a0 8 10).bind fun v_22 =>
    (g_is z_21 a_1 2).bind fun _ =>
    (fSecret_rotate n a_1 a_16 (v_22 + i2) z_21).bind fun z_24 =>
    (g_fI z_24 a0 8 9).bind fun v_25 =>
    (g_pF z_24 a0 8 9 (.int (v_25 + 1))).bind fun z_26 =>
    some (1, z_26))
    else (
    some ((-4), z_11)))
    else (
    some ((-3), z_11))))
    else (
    some ((-1), z))))
    else (
    some ((-1), z)))
set_option maxHeartbeats 4000000 in
set_option maxRecDepth 100000 in
theorem mMain_setFromTape (l : Launch) (D : va_G) (A : Nat → Prop) (n : Nat) (z z' : gS) (a0 : Nat) (r1 : Option Nat) (i2 : Int32) (r : Int32) (hf : fMain_setFromTape n a0 r1 i2 z = some (r, z')) : Met l yMain_setFromTape wsMain_setFromTape ({ frames := 5, cells := 7, slots := 910, locals := 109 }) (g_P D vwCl gNN gOO A z [.ref a0, va_rf r1, .int i2]) (g_Qi D vwCl A r z') 7 910 A := by
  refine Met.ofW (cc := cMain_setFromTape) (maxL := 3) (ret := (some .int)) (by decide) rfl ?_
  intro p e s m args below meth c s₁ B hml hv
  obtain ⟨rfl, hW, hK, hA0⟩ := hv
  have C : g_C p s m meth c _ cMain_setFromTape 3 (some .int) "SecretRows" gW D vwCl gNN gOO A := ⟨B.exec, B.bytes, B.returns, hml, findClass_of_methodNamed B.named, fun w hw => atoms_spec (ws := wsMain_setFromTape) B.pre w (List.mem_cons_of_mem _ hw), B.notSynchronized, hK, fun q hq => hA0 q (by rw [← hW.1]; exact hq)⟩
  have hS : va_S A s.heap s.heap [] := va_S.rf
  have hl := lv_entry ([.ref a0, va_rf r1, .int i2]) (n := 3) (by cases r1 <;> exact Nat.le_of_ble_eq_true rfl)
  rw [lg_entry_eq]
  generalize (lg_sl ([.ref a0, va_rf r1, .int i2]) ++ List.replicate (3 - (lg_sl ([.ref a0, va_rf r1, .int i2])).length) Slot.unset).toArray = ls at hl ⊢
  have hl : lv_has ls 3 [(0, .ref a0), (1, va_rf r1), (2, .int i2)] := by cases r1 <;> exact hl
  obtain ⟨hx, hb, hr, hml, hown, hts, hlocks, hK, hA⟩ := id C
  unfold fMain_setFromTape at hf
  refine g_aload_n hx hb dMain_setFromTape_0 rfl (lv_at hl 1 rfl) ?_
  cases r1 with
  | none =>
    replace hf := g_n0 hf
    replace hl : lv_has _ 3 [(0, .ref a0), (1, .null), (2, .int i2)] := hl
    refine W.eq (g2 := F0 m 1 _ [.null]) rfl ?_
    refine lv_ifnullN (tgt := 21) hx hb dMain_setFromTape_1 (by decide) ?_
    refine lv_iconst (v := (-1)) hx hb dMain_setFromTape_21 (by decide) ?_
    cases hf
    exact g_reti hx hb hr hlocks hW hS (Nat.le_of_ble_eq_true rfl) (Nat.le_of_ble_eq_true rfl) dMain_setFromTape_22
  | some a_1 =>
    replace hf := g_n1 hf
    replace hl : lv_has _ 3 [(0, .ref a0), (1, .ref a_1), (2, .int i2)] := hl
    refine W.eq (g2 := F0 m 1 _ [.ref a_1]) rfl ?_
    refine lv_ifnull hx hb dMain_setFromTape_1 ?_
    refine lv_aload_n hx hb dMain_setFromTape_4 rfl (lv_at hl 1 rfl) ?_
    replace hf := g_bd hf
    obtain ⟨v_2, hv_2, hf⟩ := hf
    refine g_getIN hx hb hts in_Secret hown hK hW (ci := 2) (C := "SecretRows$Secret") (T := T_Secret) (N := 7) rfl (k := 6) (by decide) (host := "SecretRows") kw_142 (fun _ h9 => h9) hv_2 dMain_setFromTape_5 ?_
    refine lv_if_ne (tgt := 21) hx hb dMain_setFromTape_8 (by decide) (fun c_3 => ?_) (fun c_3 => ?_)
    · replace hf := g_if c_3 hf
      refine lv_iconst (v := (-1)) hx hb dMain_setFromTape_21 (by decide) ?_
      cases hf
      exact g_reti hx hb hr hlocks hW hS (Nat.le_of_ble_eq_true rfl) (Nat.le_of_ble_eq_true rfl) dMain_setFromTape_22
    · replace hf := g_it c_3 hf
      refine lv_iload_n hx hb dMain_setFromTape_11 rfl (lv_at hl 2 rfl) ?_
      refine lv_if_lt (tgt := 21) hx hb dMain_setFromTape_12 (by decide) (fun c_4 => ?_) (fun c_4 => ?_)
      · replace hf := g_it c_4 hf
        refine lv_iconst (v := (-1)) hx hb dMain_setFromTape_21 (by decide) ?_
        cases hf
        exact g_reti hx hb hr hlocks hW hS (Nat.le_of_ble_eq_true rfl) (Nat.le_of_ble_eq_true rfl) dMain_setFromTape_22
      · replace hf := g_if c_4 hf
        refine lv_iload_n hx hb dMain_setFromTape_15 rfl (lv_at hl 2 rfl) ?_
        refine lv_ldc (v := 100000) hx hb hown (hts _ kw_178) dMain_setFromTape_16 ?_
        refine lv_icmp_le (tgt := 23) hx hb dMain_setFromTape_18 (by decide) (fun c_5 => ?_) (fun c_5 => ?_)
        · replace hf := g_it c_5 hf
          refine lv_aload_n hx hb dMain_setFromTape_23 rfl (lv_at hl 0 rfl) ?_
          replace hf := g_bd hf
          obtain ⟨_, hi_6, hf⟩ := hf
          replace hf := g_bps hf
          obtain ⟨v_8, z_7, hz_7, hf⟩ := hf
          refine g_goi (g_rV (As := []) (rest := []) ⟨hx, hb, hml, hown, hts⟩ (mMain_tapeCanBeValue l D A n _ _ a0 _ hz_7) (cwV 0 hts (gi_V kw_179 kw_181 ks_Main_tapeCanBeValue kw_1 kw_182) rfl rfl rfl ⟨rfl, hdMain_tapeCanBeValue⟩ ⟨Nat.le_of_ble_eq_true rfl, Nat.le_of_ble_eq_true rfl⟩) hK hW hS hA (ci := 8) (T := T_Main) (N := 14) rfl hi_6 rfl hl.1 rfl (Nat.le_of_ble_eq_true rfl) dMain_setFromTape_24 ⟨Nat.le_of_ble_eq_true rfl, Nat.le_of_ble_eq_true rfl⟩) hS (fun H locs hW hS => ?_)
          refine lv_if_ne (tgt := 33) hx hb dMain_setFromTape_27 (by decide) (fun c_9 => ?_) (fun c_9 => ?_)
          · replace hf := g_if c_9 hf
            refine lv_aload_n hx hb dMain_setFromTape_33 rfl (lv_at hl 0 rfl) ?_
            replace hf := g_bd hf
            obtain ⟨_, hi_10, hf⟩ := hf
            replace hf := g_bps hf
            obtain ⟨v_12, z_11, hz_11, hf⟩ := hf
            refine g_goi (g_rV (As := []) (rest := []) ⟨hx, hb, hml, hown, hts⟩ (mMain_tapeIsHad l D A n _ _ a0 _ hz_11) (cwV 0 hts (gi_V kw_195 kw_197 ks_Main_tapeIsHad kw_1 kw_198) rfl rfl rfl ⟨rfl, hdMain_tapeIsHad⟩ ⟨Nat.le_of_ble_eq_true rfl, Nat.le_of_ble_eq_true rfl⟩) hK hW hS hA (ci := 8) (T := T_Main) (N := 14) rfl hi_10 rfl hl.1 rfl (Nat.le_of_ble_eq_true rfl) dMain_setFromTape_34 ⟨Nat.le_of_ble_eq_true rfl, Nat.le_of_ble_eq_true rfl⟩) hS (fun H locs hW hS => ?_)
            refine lv_if_eq (tgt := 43) hx hb dMain_setFromTape_37 (by decide) (fun c_13 => ?_) (fun c_13 => ?_)
            · replace hf := g_it c_13 hf
              refine lv_aload_n hx hb dMain_setFromTape_43 rfl (lv_at hl 0 rfl) ?_
              replace hf := g_bd hf
              obtain ⟨v_14, hv_14, hf⟩ := hf
              refine g_getI hx hb hts in_Main hown hK hW (ci := 8) (C := "SecretRows") (T := T_Main) (N := 14) rfl (k := 9) (by decide) (hts _ kw_90) (fun _ h9 => h9) hv_14 dMain_setFromTape_44 ?_
              refine lv_bipush (v := 24) hx hb dMain_setFromTape_47 (by decide) ?_
              refine lv_icmp_lt (tgt := 55) hx hb dMain_setFromTape_49 (by decide) (fun c_15 => ?_) (fun c_15 => ?_)
              · replace hf := g_it c_15 hf
                refine lv_aload_n hx hb dMain_setFromTape_55 rfl (lv_at hl 1 rfl) ?_
                replace hf := g_bps hf
                obtain ⟨a_16, z_17, hz_17, hf⟩ := hf
                refine g_newO hx hb hts in_Value ty_Value tyok_Value hown (hts _ kw_214) (hts _ kw_215) (hts _ kw_8) hK hW hS hA (ci := 1) (C := "SecretRows$Value") (T := T_Value) (N := 4) rfl (fun j hj => by rcases (show j = 0 ∨ j = 1 ∨ j = 2 ∨ j = 3 by omega) with rfl | rfl | rfl | rfl <;> rfl) (Nat.le_of_ble_eq_true rfl) (Nat.le_of_ble_eq_true rfl) hz_17 dMain_setFromTape_56 (fun H hW hS => ?_)
                refine W.cs (cells' := 1) (slots' := 4) rfl rfl ?_
                refine lv_dup hx hb dMain_setFromTape_59 rfl ?_
                refine lv_aload_n hx hb dMain_setFromTape_60 rfl (lv_at hl 0 rfl) ?_
                replace hf := g_bd hf
                obtain ⟨v_18, hv_18, hf⟩ := hf
                refine g_getI hx hb hts in_Main hown hK hW (ci := 8) (C := "SecretRows") (T := T_Main) (N := 14) rfl (k := 9) (by decide) (hts _ kw_90) (fun _ h9 => h9) hv_18 dMain_setFromTape_61 ?_
                refine lv_aload_n hx hb dMain_setFromTape_64 rfl (lv_at hl 0 rfl) ?_
                replace hf := g_bd hf
                obtain ⟨r_19, hr_19, hf⟩ := hf
                refine g_getR hx hb hts in_Main hown hK hW (ci := 8) (C := "SecretRows") (T := T_Main) (N := 14) rfl (k := 4) (by decide) (hts _ kw_85) (fun _ h9 => h9) hr_19 dMain_setFromTape_65 ?_
                replace hf := g_bd hf
                obtain ⟨a_20, ea_20, hf⟩ := hf
                subst ea_20
                refine W.eq (g2 := F0 m 68 _ [.ref a_20, .int v_18, .ref a_16, .ref a_16, .ref a_1]) rfl ?_
                replace hf := g_bd hf
                obtain ⟨z_21, hz_21, hf⟩ := hf
                refine g_gov (g_rI (As := [.int v_18, .ref a_20]) (rest := [.ref a_16, .ref a_1]) ⟨hx, hb, hml, hown, hts⟩ (mValue_init l D A n _ _ a_16 v_18 a_20 hz_21) (cwI 2 hts (gi_I kw_218) rfl rfl rfl (hts _ kw_8) (hts _ kw_216) (hts _ kw_217) rfl hdValue_init ⟨Nat.le_of_ble_eq_true rfl, Nat.le_of_ble_eq_true rfl⟩) hK hW hS hA rfl hl.1 rfl (Nat.le_of_ble_eq_true rfl) dMain_setFromTape_68 ⟨Nat.le_of_ble_eq_true rfl, Nat.le_of_ble_eq_true rfl⟩) hS (fun H locs hW hS => ?_)
                refine W.cs (cells' := 7) (slots' := 910) rfl rfl ?_
                refine lv_aload_n hx hb dMain_setFromTape_71 rfl (lv_at hl 0 rfl) ?_
                replace hf := g_bd hf
                obtain ⟨v_22, hv_22, hf⟩ := hf
                refine g_getI hx hb hts in_Main hown hK hW (ci := 8) (C := "SecretRows") (T := T_Main) (N := 14) rfl (k := 10) (by decide) (hts _ kw_91) (fun _ h9 => h9) hv_22 dMain_setFromTape_72 ?_
                refine lv_iload_n hx hb dMain_setFromTape_75 rfl (lv_at hl 2 rfl) ?_
                refine lv_iadd hx hb dMain_setFromTape_76 ?_
                replace hf := g_bd hf
                obtain ⟨_, hi_23, hf⟩ := hf
                replace hf := g_bd hf
                obtain ⟨z_24, hz_24, hf⟩ := hf
                refine g_gov (g_rV (As := [.ref a_16, .int (v_22 + i2)]) (rest := []) ⟨hx, hb, hml, hown, hts⟩ (mSecret_rotate l D A n _ _ a_1 a_16 (v_22 + i2) hz_24) (cwV 2 hts (gi_V kw_258 kw_259 kw_260 kw_7 kw_261) rfl rfl rfl ⟨rfl, hdSecret_rotate⟩ ⟨Nat.le_of_ble_eq_true rfl, Nat.le_of_ble_eq_true rfl⟩) hK hW hS hA (ci := 2) (T := T_Secret) (N := 7) rfl hi_23 rfl hl.1 rfl (Nat.le_of_ble_eq_true rfl) dMain_setFromTape_77 ⟨Nat.le_of_ble_eq_true rfl, Nat.le_of_ble_eq_true rfl⟩) hS (fun H locs hW hS => ?_)
                refine lv_aload_n hx hb dMain_setFromTape_80 rfl (lv_at hl 0 rfl) ?_
                refine lv_dup hx hb dMain_setFromTape_81 rfl ?_
                replace hf := g_bd hf
                obtain ⟨v_25, hv_25, hf⟩ := hf
                refine g_getI hx hb hts in_Main hown hK hW (ci := 8) (C := "SecretRows") (T := T_Main) (N := 14) rfl (k := 9) (by decide) (hts _ kw_90) (fun _ h9 => h9) hv_25 dMain_setFromTape_82 ?_
                refine lv_iconst (v := 1) hx hb dMain_setFromTape_85 (by decide) ?_
                refine lv_iadd hx hb dMain_setFromTape_86 ?_
                replace hf := g_bd hf
                obtain ⟨z_26, hz_26, hf⟩ := hf
                refine g_put hx hb hts in_Main ty_Main tyok_Main nm_Main hown hK hW hS (ci := 8) (C := "SecretRows") (T := T_Main) (N := 14) rfl (k := 9) (by decide) (hts _ kw_90) (fun _ h9 => h9) rfl (ty := .int) (by decide +kernel) rfl rfl hz_26 dMain_setFromTape_87 (fun H locs hW hS => ?_)
                refine lv_iconst (v := 1) hx hb dMain_setFromTape_90 (by decide) ?_
                cases hf
                exact g_reti hx hb hr hlocks hW hS (Nat.le_of_ble_eq_true rfl) (Nat.le_of_ble_eq_true rfl) dMain_setFromTape_91
              · replace hf := g_if c_15 hf
                refine lv_bipush (v := (-4)) hx hb dMain_setFromTape_52 (by decide) ?_
                cases hf
                exact g_reti hx hb hr hlocks hW hS (Nat.le_of_ble_eq_true rfl) (Nat.le_of_ble_eq_true rfl) dMain_setFromTape_54
            · replace hf := g_if c_13 hf
              refine lv_bipush (v := (-3)) hx hb dMain_setFromTape_40 (by decide) ?_
              cases hf
              exact g_reti hx hb hr hlocks hW hS (Nat.le_of_ble_eq_true rfl) (Nat.le_of_ble_eq_true rfl) dMain_setFromTape_42
          · replace hf := g_it c_9 hf
            refine lv_bipush (v := (-2)) hx hb dMain_setFromTape_30 (by decide) ?_
            cases hf
            exact g_reti hx hb hr hlocks hW hS (Nat.le_of_ble_eq_true rfl) (Nat.le_of_ble_eq_true rfl) dMain_setFromTape_32
        · replace hf := g_if c_5 hf
          refine lv_iconst (v := (-1)) hx hb dMain_setFromTape_21 (by decide) ?_
          cases hf
          exact g_reti hx hb hr hlocks hW hS (Nat.le_of_ble_eq_true rfl) (Nat.le_of_ble_eq_true rfl) dMain_setFromTape_22

def fText_clear (n : Nat) (a0 : Nat) (z : gS) : Option (gS) :=
    (g_pF z a0 0 1 (.int 0)).bind fun z_1 =>
    some z_1
set_option maxHeartbeats 4000000 in
set_option maxRecDepth 100000 in
theorem mText_clear (l : Launch) (D : va_G) (A : Nat → Prop) (n : Nat) (z z' : gS) (a0 : Nat) (hf : fText_clear n a0 z = some z') : Met l yText_clear wsText_clear ({ frames := 0, cells := 0, slots := 0, locals := 0 }) (g_P D vwCl gNN gOO A z [.ref a0]) (g_Qv D vwCl A z') 0 0 A := by
  refine Met.ofW (cc := cText_clear) (maxL := 1) (ret := none) (by decide) rfl ?_
  intro p e s m args below meth c s₁ B hml hv
  obtain ⟨rfl, hW, hK, hA0⟩ := hv
  have C : g_C p s m meth c _ cText_clear 1 none "SecretRows$Text" gW D vwCl gNN gOO A := ⟨B.exec, B.bytes, B.returns, hml, findClass_of_methodNamed B.named, fun w hw => atoms_spec (ws := wsText_clear) B.pre w (List.mem_cons_of_mem _ hw), B.notSynchronized, hK, fun q hq => hA0 q (by rw [← hW.1]; exact hq)⟩
  have hS : va_S A s.heap s.heap [] := va_S.rf
  have hl := lv_entry ([.ref a0]) (n := 1) (Nat.le_of_ble_eq_true rfl)
  rw [lg_entry_eq]
  generalize (lg_sl ([.ref a0]) ++ List.replicate (1 - (lg_sl ([.ref a0])).length) Slot.unset).toArray = ls at hl ⊢
  have hl : lv_has ls 1 [(0, .ref a0)] := hl
  obtain ⟨hx, hb, hr, hml, hown, hts, hlocks, hK, hA⟩ := id C
  unfold fText_clear at hf
  refine lv_aload_n hx hb dText_clear_0 rfl (lv_at hl 0 rfl) ?_
  refine lv_iconst (v := 0) hx hb dText_clear_1 (by decide) ?_
  replace hf := g_bd hf
  obtain ⟨z_1, hz_1, hf⟩ := hf
  refine g_put hx hb hts in_Text ty_Text tyok_Text nm_Text hown hK hW hS (ci := 0) (C := "SecretRows$Text") (T := T_Text) (N := 2) rfl (k := 1) (by decide) (hts _ kw_50) (fun _ h9 => h9) rfl (ty := .int) (by decide +kernel) rfl rfl hz_1 dText_clear_2 (fun H locs hW hS => ?_)
  cases hf
  exact g_retv hx hb hr hlocks hW hS (Nat.le_of_ble_eq_true rfl) (Nat.le_of_ble_eq_true rfl) dText_clear_5

def fMain_set (n : Nat) (a0 : Nat) (i1 : Int32) (i2 : Int32) (z : gS) : Option (Int32 × gS) :=
    (g_is z a0 8).bind fun _ =>
    g_bp (fMain_findSecret n a0 i1 z) fun r_3 z_2 =>
    (g_is z_2 a0 8).bind fun _ =>
    g_bp (fMain_setFromTape n a0 r_3 i2 z_2) fun v_6 z_5 =>
    (g_fR z_5 a0 8 4).bind fun r_7 =>
    r_7.bind fun a_8 =>
    (g_is z_5 a_8 0).bind fun _ =>
    (fText_clear n a_8 z_5).bind fun z_10 =>
    some (v_6, z_10)
set_option maxHeartbeats 4000000 in
set_option maxRecDepth 100000 in
theorem mMain_set (l : Launch) (D : va_G) (A : Nat → Prop) (n : Nat) (z z' : gS) (a0 : Nat) (i1 : Int32) (i2 : Int32) (r : Int32) (hf : fMain_set n a0 i1 i2 z = some (r, z')) : Met l yMain_set wsMain_set ({ frames := 6, cells := 7, slots := 910, locals := 131 }) (g_P D vwCl gNN gOO A z [.ref a0, .int i1, .int i2]) (g_Qi D vwCl A r z') 7 910 A := by
  refine Met.ofW (cc := cMain_set) (maxL := 4) (ret := (some .int)) (by decide) rfl ?_
  intro p e s m args below meth c s₁ B hml hv
  obtain ⟨rfl, hW, hK, hA0⟩ := hv
  have C : g_C p s m meth c _ cMain_set 4 (some .int) "SecretRows" gW D vwCl gNN gOO A := ⟨B.exec, B.bytes, B.returns, hml, findClass_of_methodNamed B.named, fun w hw => atoms_spec (ws := wsMain_set) B.pre w (List.mem_cons_of_mem _ hw), B.notSynchronized, hK, fun q hq => hA0 q (by rw [← hW.1]; exact hq)⟩
  have hS : va_S A s.heap s.heap [] := va_S.rf
  have hl := lv_entry ([.ref a0, .int i1, .int i2]) (n := 4) (Nat.le_of_ble_eq_true rfl)
  rw [lg_entry_eq]
  generalize (lg_sl ([.ref a0, .int i1, .int i2]) ++ List.replicate (4 - (lg_sl ([.ref a0, .int i1, .int i2])).length) Slot.unset).toArray = ls at hl ⊢
  have hl : lv_has ls 4 [(0, .ref a0), (1, .int i1), (2, .int i2)] := hl
  obtain ⟨hx, hb, hr, hml, hown, hts, hlocks, hK, hA⟩ := id C
  unfold fMain_set at hf
  refine lv_aload_n hx hb dMain_set_0 rfl (lv_at hl 0 rfl) ?_
  refine lv_aload_n hx hb dMain_set_1 rfl (lv_at hl 0 rfl) ?_
  refine lv_iload_n hx hb dMain_set_2 rfl (lv_at hl 1 rfl) ?_
  replace hf := g_bd hf
  obtain ⟨_, hi_1, hf⟩ := hf
  replace hf := g_bps hf
  obtain ⟨r_3, z_2, hz_2, hf⟩ := hf
  refine g_goq (g_rV (As := [.int i1]) (rest := [.ref a0]) ⟨hx, hb, hml, hown, hts⟩ (mMain_findSecret l D A n _ _ a0 i1 _ hz_2) (cwV 1 hts (gi_V kw_170 kw_172 ks_Main_findSecret kw_1 kw_173) rfl rfl rfl ⟨rfl, hdMain_findSecret⟩ ⟨Nat.le_of_ble_eq_true rfl, Nat.le_of_ble_eq_true rfl⟩) hK hW hS hA (ci := 8) (T := T_Main) (N := 14) rfl hi_1 rfl hl.1 rfl (Nat.le_of_ble_eq_true rfl) dMain_set_3 ⟨Nat.le_of_ble_eq_true rfl, Nat.le_of_ble_eq_true rfl⟩) hS (fun H locs hW hS => ?_)
  refine lv_iload_n hx hb dMain_set_6 rfl (lv_at hl 2 rfl) ?_
  replace hf := g_bd hf
  obtain ⟨_, hi_4, hf⟩ := hf
  replace hf := g_bps hf
  obtain ⟨v_6, z_5, hz_5, hf⟩ := hf
  refine g_goi (g_rV (As := [va_rf r_3, .int i2]) (rest := []) ⟨hx, hb, hml, hown, hts⟩ (mMain_setFromTape l D A n _ _ a0 r_3 i2 _ hz_5) (cwV 2 hts (gi_V kw_174 kw_176 ks_Main_setFromTape kw_1 kw_177) rfl rfl rfl ⟨rfl, hdMain_setFromTape⟩ ⟨Nat.le_of_ble_eq_true rfl, Nat.le_of_ble_eq_true rfl⟩) hK hW hS hA (ci := 8) (T := T_Main) (N := 14) rfl hi_4 rfl hl.1 rfl (Nat.le_of_ble_eq_true rfl) dMain_set_7 ⟨Nat.le_of_ble_eq_true rfl, Nat.le_of_ble_eq_true rfl⟩) hS (fun H locs hW hS => ?_)
  refine W.cs (cells' := 7) (slots' := 910) rfl rfl ?_
  refine lv_istore_n (lv' := [(3, .int v_6), (0, .ref a0), (1, .int i1), (2, .int i2)]) hx hb dMain_set_10 rfl hl (by decide) rfl (fun _ hl1 => ?_)
  clear hl
  have hl := hl1
  clear hl1
  refine lv_aload_n hx hb dMain_set_11 rfl (lv_at hl 1 rfl) ?_
  replace hf := g_bd hf
  obtain ⟨r_7, hr_7, hf⟩ := hf
  refine g_getR hx hb hts in_Main hown hK hW (ci := 8) (C := "SecretRows") (T := T_Main) (N := 14) rfl (k := 4) (by decide) (hts _ kw_85) (fun _ h9 => h9) hr_7 dMain_set_12 ?_
  replace hf := g_bd hf
  obtain ⟨a_8, ea_8, hf⟩ := hf
  subst ea_8
  refine W.eq (g2 := F0 m 15 _ [.ref a_8]) rfl ?_
  replace hf := g_bd hf
  obtain ⟨_, hi_9, hf⟩ := hf
  replace hf := g_bd hf
  obtain ⟨z_10, hz_10, hf⟩ := hf
  refine g_gov (g_rV (As := []) (rest := []) ⟨hx, hb, hml, hown, hts⟩ (mText_clear l D A n _ _ a_8 hz_10) (cwV 0 hts (gi_V kw_262 kw_263 kw_264 kw_3 kw_265) rfl rfl rfl ⟨rfl, hdText_clear⟩ ⟨Nat.le_of_ble_eq_true rfl, Nat.le_of_ble_eq_true rfl⟩) hK hW hS hA (ci := 0) (T := T_Text) (N := 2) rfl hi_9 rfl hl.1 rfl (Nat.le_of_ble_eq_true rfl) dMain_set_15 ⟨Nat.le_of_ble_eq_true rfl, Nat.le_of_ble_eq_true rfl⟩) hS (fun H locs hW hS => ?_)
  refine lv_iload_n hx hb dMain_set_18 rfl (lv_at hl 0 rfl) ?_
  cases hf
  exact g_reti hx hb hr hlocks hW hS (Nat.le_of_ble_eq_true rfl) (Nat.le_of_ble_eq_true rfl) dMain_set_19
