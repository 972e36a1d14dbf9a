theorem dX4_init_0 : decode cX4_init 0 = .ok (.aload_n 0, 1) := by decide +kernel
theorem dX4_init_1 : decode cX4_init 1 = .ok (.invokespecial 1, 3) := by decide +kernel
theorem dX4_init_4 : decode cX4_init 4 = .ok (.aload_n 0, 1) := by decide +kernel
theorem dX4_init_5 : decode cX4_init 5 = .ok (.new 7, 3) := by decide +kernel
theorem dX4_init_8 : decode cX4_init 8 = .ok (.dup, 1) := by decide +kernel
theorem dX4_init_9 : decode cX4_init 9 = .ok (.invokespecial 9, 3) := by decide +kernel
theorem dX4_init_12 : decode cX4_init 12 = .ok (.putfield 10, 3) := by decide +kernel
theorem dX4_init_15 : decode cX4_init 15 = .ok (.aload_n 0, 1) := by decide +kernel
theorem dX4_init_16 : decode cX4_init 16 = .ok (.new 16, 3) := by decide +kernel
theorem dX4_init_19 : decode cX4_init 19 = .ok (.dup, 1) := by decide +kernel
theorem dX4_init_20 : decode cX4_init 20 = .ok (.invokespecial 18, 3) := by decide +kernel
theorem dX4_init_23 : decode cX4_init 23 = .ok (.putfield 19, 3) := by decide +kernel
theorem dX4_init_26 : decode cX4_init 26 = .ok (.aload_n 0, 1) := by decide +kernel
theorem dX4_init_27 : decode cX4_init 27 = .ok (.new 16, 3) := by decide +kernel
theorem dX4_init_30 : decode cX4_init 30 = .ok (.dup, 1) := by decide +kernel
theorem dX4_init_31 : decode cX4_init 31 = .ok (.invokespecial 18, 3) := by decide +kernel
theorem dX4_init_34 : decode cX4_init 34 = .ok (.putfield 23, 3) := by decide +kernel
theorem dX4_init_37 : decode cX4_init 37 = .ok (.aload_n 0, 1) := by decide +kernel
theorem dX4_init_38 : decode cX4_init 38 = .ok (.new 26, 3) := by decide +kernel
theorem dX4_init_41 : decode cX4_init 41 = .ok (.dup, 1) := by decide +kernel
theorem dX4_init_42 : decode cX4_init 42 = .ok (.aload_n 0, 1) := by decide +kernel
theorem dX4_init_43 : decode cX4_init 43 = .ok (.getfield 19, 3) := by decide +kernel
theorem dX4_init_46 : decode cX4_init 46 = .ok (.invokespecial 28, 3) := by decide +kernel
theorem dX4_init_49 : decode cX4_init 49 = .ok (.putfield 31, 3) := by decide +kernel
theorem dX4_init_52 : decode cX4_init 52 = .ok (.aload_n 0, 1) := by decide +kernel
theorem dX4_init_53 : decode cX4_init 53 = .ok (.new 35, 3) := by decide +kernel
theorem dX4_init_56 : decode cX4_init 56 = .ok (.dup, 1) := by decide +kernel
theorem dX4_init_57 : decode cX4_init 57 = .ok (.aload_n 0, 1) := by decide +kernel
theorem dX4_init_58 : decode cX4_init 58 = .ok (.getfield 19, 3) := by decide +kernel
theorem dX4_init_61 : decode cX4_init 61 = .ok (.invokespecial 37, 3) := by decide +kernel
theorem dX4_init_64 : decode cX4_init 64 = .ok (.putfield 38, 3) := by decide +kernel
theorem dX4_init_67 : decode cX4_init 67 = .ok (.aload_n 0, 1) := by decide +kernel
theorem dX4_init_68 : decode cX4_init 68 = .ok (.new 35, 3) := by decide +kernel
theorem dX4_init_71 : decode cX4_init 71 = .ok (.dup, 1) := by decide +kernel
theorem dX4_init_72 : decode cX4_init 72 = .ok (.aload_n 0, 1) := by decide +kernel
theorem dX4_init_73 : decode cX4_init 73 = .ok (.getfield 19, 3) := by decide +kernel
theorem dX4_init_76 : decode cX4_init 76 = .ok (.invokespecial 37, 3) := by decide +kernel
theorem dX4_init_79 : decode cX4_init 79 = .ok (.putfield 42, 3) := by decide +kernel
theorem dX4_init_82 : decode cX4_init 82 = .ok (.aload_n 0, 1) := by decide +kernel
theorem dX4_init_83 : decode cX4_init 83 = .ok (.new 35, 3) := by decide +kernel
theorem dX4_init_86 : decode cX4_init 86 = .ok (.dup, 1) := by decide +kernel
theorem dX4_init_87 : decode cX4_init 87 = .ok (.aload_n 0, 1) := by decide +kernel
theorem dX4_init_88 : decode cX4_init 88 = .ok (.getfield 19, 3) := by decide +kernel
theorem dX4_init_91 : decode cX4_init 91 = .ok (.invokespecial 37, 3) := by decide +kernel
theorem dX4_init_94 : decode cX4_init 94 = .ok (.putfield 45, 3) := by decide +kernel
theorem dX4_init_97 : decode cX4_init 97 = .ok (.aload_n 0, 1) := by decide +kernel
theorem dX4_init_98 : decode cX4_init 98 = .ok (.bipush 6, 2) := by decide +kernel
theorem dX4_init_100 : decode cX4_init 100 = .ok (.newarray .int, 2) := by decide +kernel
theorem dX4_init_102 : decode cX4_init 102 = .ok (.putfield 48, 3) := by decide +kernel
theorem dX4_init_105 : decode cX4_init 105 = .ok (.aload_n 0, 1) := by decide +kernel
theorem dX4_init_106 : decode cX4_init 106 = .ok (.bipush 6, 2) := by decide +kernel
theorem dX4_init_108 : decode cX4_init 108 = .ok (.newarray .int, 2) := by decide +kernel
theorem dX4_init_110 : decode cX4_init 110 = .ok (.putfield 52, 3) := by decide +kernel
theorem dX4_init_113 : decode cX4_init 113 = .ok (.return_, 1) := by decide +kernel
theorem dX4_type_0 : decode cX4_type 0 = .ok (.iload_n 1, 1) := by decide +kernel
theorem dX4_type_1 : decode cX4_type 1 = .ok (.iconst 0, 1) := by decide +kernel
theorem dX4_type_2 : decode cX4_type 2 = .ok (.sipush 255, 3) := by decide +kernel
theorem dX4_type_5 : decode cX4_type 5 = .ok (.invokestatic 55, 3) := by decide +kernel
theorem dX4_type_8 : decode cX4_type 8 = .ok (.ifCond .ne 5, 3) := by decide +kernel
theorem dX4_type_11 : decode cX4_type 11 = .ok (.iconst (-1), 1) := by decide +kernel
theorem dX4_type_12 : decode cX4_type 12 = .ok (.ireturn, 1) := by decide +kernel
theorem dX4_type_13 : decode cX4_type 13 = .ok (.aload_n 0, 1) := by decide +kernel
theorem dX4_type_14 : decode cX4_type 14 = .ok (.getfield 10, 3) := by decide +kernel
theorem dX4_type_17 : decode cX4_type 17 = .ok (.iload_n 1, 1) := by decide +kernel
theorem dX4_type_18 : decode cX4_type 18 = .ok (.invokevirtual 59, 3) := by decide +kernel
theorem dX4_type_21 : decode cX4_type 21 = .ok (.ifCond .eq 13, 3) := by decide +kernel
theorem dX4_type_24 : decode cX4_type 24 = .ok (.aload_n 0, 1) := by decide +kernel
theorem dX4_type_25 : decode cX4_type 25 = .ok (.getfield 10, 3) := by decide +kernel
theorem dX4_type_28 : decode cX4_type 28 = .ok (.getfield 63, 3) := by decide +kernel
theorem dX4_type_31 : decode cX4_type 31 = .ok (.goto 5, 3) := by decide +kernel
theorem dX4_type_34 : decode cX4_type 34 = .ok (.bipush (-3), 2) := by decide +kernel
theorem dX4_type_36 : decode cX4_type 36 = .ok (.ireturn, 1) := by decide +kernel
theorem dX4_clear_0 : decode cX4_clear 0 = .ok (.aload_n 0, 1) := by decide +kernel
theorem dX4_clear_1 : decode cX4_clear 1 = .ok (.getfield 10, 3) := by decide +kernel
theorem dX4_clear_4 : decode cX4_clear 4 = .ok (.getfield 63, 3) := by decide +kernel
theorem dX4_clear_7 : decode cX4_clear 7 = .ok (.istore_n 1, 1) := by decide +kernel
theorem dX4_clear_8 : decode cX4_clear 8 = .ok (.aload_n 0, 1) := by decide +kernel
theorem dX4_clear_9 : decode cX4_clear 9 = .ok (.getfield 10, 3) := by decide +kernel
theorem dX4_clear_12 : decode cX4_clear 12 = .ok (.iconst 0, 1) := by decide +kernel
theorem dX4_clear_13 : decode cX4_clear 13 = .ok (.putfield 63, 3) := by decide +kernel
theorem dX4_clear_16 : decode cX4_clear 16 = .ok (.iload_n 1, 1) := by decide +kernel
theorem dX4_clear_17 : decode cX4_clear 17 = .ok (.ireturn, 1) := by decide +kernel
theorem dX4_card_0 : decode cX4_card 0 = .ok (.aload_n 0, 1) := by decide +kernel
theorem dX4_card_1 : decode cX4_card 1 = .ok (.getfield 10, 3) := by decide +kernel
theorem dX4_card_4 : decode cX4_card 4 = .ok (.aload_n 0, 1) := by decide +kernel
theorem dX4_card_5 : decode cX4_card 5 = .ok (.getfield 23, 3) := by decide +kernel
theorem dX4_card_8 : decode cX4_card 8 = .ok (.invokevirtual 67, 3) := by decide +kernel
theorem dX4_card_11 : decode cX4_card 11 = .ok (.istore_n 1, 1) := by decide +kernel
theorem dX4_card_12 : decode cX4_card 12 = .ok (.iload_n 1, 1) := by decide +kernel
theorem dX4_card_13 : decode cX4_card 13 = .ok (.iconst (-1), 1) := by decide +kernel
theorem dX4_card_14 : decode cX4_card 14 = .ok (.if_icmp .eq 8, 3) := by decide +kernel
theorem dX4_card_17 : decode cX4_card 17 = .ok (.bipush (-10), 2) := by decide +kernel
theorem dX4_card_19 : decode cX4_card 19 = .ok (.iload_n 1, 1) := by decide +kernel
theorem dX4_card_20 : decode cX4_card 20 = .ok (.isub, 1) := by decide +kernel
theorem dX4_card_21 : decode cX4_card 21 = .ok (.ireturn, 1) := by decide +kernel
theorem dX4_card_22 : decode cX4_card 22 = .ok (.aload_n 0, 1) := by decide +kernel
theorem dX4_card_23 : decode cX4_card 23 = .ok (.getfield 19, 3) := by decide +kernel
theorem dX4_card_26 : decode cX4_card 26 = .ok (.aload_n 0, 1) := by decide +kernel
theorem dX4_card_27 : decode cX4_card 27 = .ok (.getfield 23, 3) := by decide +kernel
theorem dX4_card_30 : decode cX4_card 30 = .ok (.invokevirtual 71, 3) := by decide +kernel
theorem dX4_card_33 : decode cX4_card 33 = .ok (.aload_n 0, 1) := by decide +kernel
theorem dX4_card_34 : decode cX4_card 34 = .ok (.getfield 10, 3) := by decide +kernel
theorem dX4_card_37 : decode cX4_card 37 = .ok (.iconst 0, 1) := by decide +kernel
theorem dX4_card_38 : decode cX4_card 38 = .ok (.putfield 63, 3) := by decide +kernel
theorem dX4_card_41 : decode cX4_card 41 = .ok (.aload_n 0, 1) := by decide +kernel
theorem dX4_card_42 : decode cX4_card 42 = .ok (.getfield 38, 3) := by decide +kernel
theorem dX4_card_45 : decode cX4_card 45 = .ok (.invokevirtual 74, 3) := by decide +kernel
theorem dX4_card_48 : decode cX4_card 48 = .ok (.aload_n 0, 1) := by decide +kernel
theorem dX4_card_49 : decode cX4_card 49 = .ok (.iconst 0, 1) := by decide +kernel
theorem dX4_card_50 : decode cX4_card 50 = .ok (.putfield 77, 3) := by decide +kernel
theorem dX4_card_53 : decode cX4_card 53 = .ok (.aload_n 0, 1) := by decide +kernel
theorem dX4_card_54 : decode cX4_card 54 = .ok (.iconst 0, 1) := by decide +kernel
theorem dX4_card_55 : decode cX4_card 55 = .ok (.putfield 80, 3) := by decide +kernel
theorem dX4_card_58 : decode cX4_card 58 = .ok (.aload_n 0, 1) := by decide +kernel
theorem dX4_card_59 : decode cX4_card 59 = .ok (.getfield 10, 3) := by decide +kernel
theorem dX4_card_62 : decode cX4_card 62 = .ok (.getfield 83, 3) := by decide +kernel
theorem dX4_card_65 : decode cX4_card 65 = .ok (.ireturn, 1) := by decide +kernel
theorem dX4_line_0 : decode cX4_line 0 = .ok (.aload_n 0, 1) := by decide +kernel
theorem dX4_line_1 : decode cX4_line 1 = .ok (.getfield 19, 3) := by decide +kernel
theorem dX4_line_4 : decode cX4_line 4 = .ok (.iload_n 1, 1) := by decide +kernel
theorem dX4_line_5 : decode cX4_line 5 = .ok (.invokevirtual 86, 3) := by decide +kernel
theorem dX4_line_8 : decode cX4_line 8 = .ok (.ifCond .eq 14, 3) := by decide +kernel
theorem dX4_line_11 : decode cX4_line 11 = .ok (.aload_n 0, 1) := by decide +kernel
theorem dX4_line_12 : decode cX4_line 12 = .ok (.getfield 19, 3) := by decide +kernel
theorem dX4_line_15 : decode cX4_line 15 = .ok (.iload_n 1, 1) := by decide +kernel
theorem dX4_line_16 : decode cX4_line 16 = .ok (.invokevirtual 89, 3) := by decide +kernel
theorem dX4_line_19 : decode cX4_line 19 = .ok (.goto 4, 3) := by decide +kernel
theorem dX4_line_22 : decode cX4_line 22 = .ok (.iconst (-1), 1) := by decide +kernel
theorem dX4_line_23 : decode cX4_line 23 = .ok (.ireturn, 1) := by decide +kernel
theorem dX4_word_0 : decode cX4_word 0 = .ok (.aload_n 0, 1) := by decide +kernel
theorem dX4_word_1 : decode cX4_word 1 = .ok (.getfield 19, 3) := by decide +kernel
theorem dX4_word_4 : decode cX4_word 4 = .ok (.iload_n 1, 1) := by decide +kernel
theorem dX4_word_5 : decode cX4_word 5 = .ok (.invokevirtual 93, 3) := by decide +kernel
theorem dX4_word_8 : decode cX4_word 8 = .ok (.ifCond .eq 12, 3) := by decide +kernel
theorem dX4_word_11 : decode cX4_word 11 = .ok (.iload_n 2, 1) := by decide +kernel
theorem dX4_word_12 : decode cX4_word 12 = .ok (.iconst 0, 1) := by decide +kernel
theorem dX4_word_13 : decode cX4_word 13 = .ok (.iconst 5, 1) := by decide +kernel
theorem dX4_word_14 : decode cX4_word 14 = .ok (.invokestatic 55, 3) := by decide +kernel
theorem dX4_word_17 : decode cX4_word 17 = .ok (.ifCond .ne 5, 3) := by decide +kernel
theorem dX4_word_20 : decode cX4_word 20 = .ok (.iconst (-1), 1) := by decide +kernel
theorem dX4_word_21 : decode cX4_word 21 = .ok (.ireturn, 1) := by decide +kernel
theorem dX4_word_22 : decode cX4_word 22 = .ok (.iload_n 2, 1) := by decide +kernel
theorem dX4_word_23 : decode cX4_word 23 = .ok (.iconst 5, 1) := by decide +kernel
theorem dX4_word_24 : decode cX4_word 24 = .ok (.if_icmp .ge 15, 3) := by decide +kernel
theorem dX4_word_27 : decode cX4_word 27 = .ok (.aload_n 0, 1) := by decide +kernel
theorem dX4_word_28 : decode cX4_word 28 = .ok (.getfield 19, 3) := by decide +kernel
theorem dX4_word_31 : decode cX4_word 31 = .ok (.iload_n 1, 1) := by decide +kernel
theorem dX4_word_32 : decode cX4_word 32 = .ok (.iload_n 2, 1) := by decide +kernel
theorem dX4_word_33 : decode cX4_word 33 = .ok (.invokevirtual 96, 3) := by decide +kernel
theorem dX4_word_36 : decode cX4_word 36 = .ok (.goto 14, 3) := by decide +kernel
theorem dX4_word_39 : decode cX4_word 39 = .ok (.aload_n 0, 1) := by decide +kernel
theorem dX4_word_40 : decode cX4_word 40 = .ok (.getfield 38, 3) := by decide +kernel
theorem dX4_word_43 : decode cX4_word 43 = .ok (.getfield 100, 3) := by decide +kernel
theorem dX4_word_46 : decode cX4_word 46 = .ok (.iload_n 1, 1) := by decide +kernel
theorem dX4_word_47 : decode cX4_word 47 = .ok (.invokestatic 103, 3) := by decide +kernel
theorem dX4_word_50 : decode cX4_word 50 = .ok (.ireturn, 1) := by decide +kernel
theorem dX4_writes_0 : decode cX4_writes 0 = .ok (.aload_n 0, 1) := by decide +kernel
theorem dX4_writes_1 : decode cX4_writes 1 = .ok (.getfield 38, 3) := by decide +kernel
theorem dX4_writes_4 : decode cX4_writes 4 = .ok (.invokevirtual 106, 3) := by decide +kernel
theorem dX4_writes_7 : decode cX4_writes 7 = .ok (.ifCond .eq 28, 3) := by decide +kernel
theorem dX4_writes_10 : decode cX4_writes 10 = .ok (.aload_n 0, 1) := by decide +kernel
theorem dX4_writes_11 : decode cX4_writes 11 = .ok (.getfield 38, 3) := by decide +kernel
theorem dX4_writes_14 : decode cX4_writes 14 = .ok (.aload_n 0, 1) := by decide +kernel
theorem dX4_writes_15 : decode cX4_writes 15 = .ok (.getfield 19, 3) := by decide +kernel
theorem dX4_writes_18 : decode cX4_writes 18 = .ok (.aload_n 0, 1) := by decide +kernel
theorem dX4_writes_19 : decode cX4_writes 19 = .ok (.getfield 38, 3) := by decide +kernel
theorem dX4_writes_22 : decode cX4_writes 22 = .ok (.getfield 110, 3) := by decide +kernel
theorem dX4_writes_25 : decode cX4_writes 25 = .ok (.iconst 0, 1) := by decide +kernel
theorem dX4_writes_26 : decode cX4_writes 26 = .ok (.invokevirtual 96, 3) := by decide +kernel
theorem dX4_writes_29 : decode cX4_writes 29 = .ok (.invokevirtual 113, 3) := by decide +kernel
theorem dX4_writes_32 : decode cX4_writes 32 = .ok (.goto 5, 3) := by decide +kernel
theorem dX4_writes_35 : decode cX4_writes 35 = .ok (.bipush (-2), 2) := by decide +kernel
theorem dX4_writes_37 : decode cX4_writes 37 = .ok (.ireturn, 1) := by decide +kernel
theorem dX4_signs_0 : decode cX4_signs 0 = .ok (.aload_n 0, 1) := by decide +kernel
theorem dX4_signs_1 : decode cX4_signs 1 = .ok (.getfield 38, 3) := by decide +kernel
theorem dX4_signs_4 : decode cX4_signs 4 = .ok (.invokevirtual 106, 3) := by decide +kernel
theorem dX4_signs_7 : decode cX4_signs 7 = .ok (.ifCond .eq 21, 3) := by decide +kernel
theorem dX4_signs_10 : decode cX4_signs 10 = .ok (.aload_n 0, 1) := by decide +kernel
theorem dX4_signs_11 : decode cX4_signs 11 = .ok (.getfield 19, 3) := by decide +kernel
theorem dX4_signs_14 : decode cX4_signs 14 = .ok (.aload_n 0, 1) := by decide +kernel
theorem dX4_signs_15 : decode cX4_signs 15 = .ok (.getfield 38, 3) := by decide +kernel
theorem dX4_signs_18 : decode cX4_signs 18 = .ok (.getfield 110, 3) := by decide +kernel
theorem dX4_signs_21 : decode cX4_signs 21 = .ok (.iconst 3, 1) := by decide +kernel
theorem dX4_signs_22 : decode cX4_signs 22 = .ok (.invokevirtual 96, 3) := by decide +kernel
theorem dX4_signs_25 : decode cX4_signs 25 = .ok (.ifCond .ne 6, 3) := by decide +kernel
theorem dX4_signs_28 : decode cX4_signs 28 = .ok (.bipush (-2), 2) := by decide +kernel
theorem dX4_signs_30 : decode cX4_signs 30 = .ok (.ireturn, 1) := by decide +kernel
theorem dX4_signs_31 : decode cX4_signs 31 = .ok (.aload_n 0, 1) := by decide +kernel
theorem dX4_signs_32 : decode cX4_signs 32 = .ok (.getfield 38, 3) := by decide +kernel
theorem dX4_signs_35 : decode cX4_signs 35 = .ok (.aload_n 0, 1) := by decide +kernel
theorem dX4_signs_36 : decode cX4_signs 36 = .ok (.getfield 19, 3) := by decide +kernel
theorem dX4_signs_39 : decode cX4_signs 39 = .ok (.aload_n 0, 1) := by decide +kernel
theorem dX4_signs_40 : decode cX4_signs 40 = .ok (.getfield 38, 3) := by decide +kernel
theorem dX4_signs_43 : decode cX4_signs 43 = .ok (.getfield 110, 3) := by decide +kernel
theorem dX4_signs_46 : decode cX4_signs 46 = .ok (.iconst 3, 1) := by decide +kernel
theorem dX4_signs_47 : decode cX4_signs 47 = .ok (.invokevirtual 96, 3) := by decide +kernel
theorem dX4_signs_50 : decode cX4_signs 50 = .ok (.invokevirtual 113, 3) := by decide +kernel
theorem dX4_signs_53 : decode cX4_signs 53 = .ok (.ireturn, 1) := by decide +kernel
theorem dX4_breaks_0 : decode cX4_breaks 0 = .ok (.aload_n 0, 1) := by decide +kernel
theorem dX4_breaks_1 : decode cX4_breaks 1 = .ok (.getfield 38, 3) := by decide +kernel
theorem dX4_breaks_4 : decode cX4_breaks 4 = .ok (.invokevirtual 106, 3) := by decide +kernel
theorem dX4_breaks_7 : decode cX4_breaks 7 = .ok (.ifCond .eq 21, 3) := by decide +kernel
theorem dX4_breaks_10 : decode cX4_breaks 10 = .ok (.aload_n 0, 1) := by decide +kernel
theorem dX4_breaks_11 : decode cX4_breaks 11 = .ok (.getfield 19, 3) := by decide +kernel
theorem dX4_breaks_14 : decode cX4_breaks 14 = .ok (.aload_n 0, 1) := by decide +kernel
theorem dX4_breaks_15 : decode cX4_breaks 15 = .ok (.getfield 38, 3) := by decide +kernel
theorem dX4_breaks_18 : decode cX4_breaks 18 = .ok (.getfield 110, 3) := by decide +kernel
theorem dX4_breaks_21 : decode cX4_breaks 21 = .ok (.iconst 4, 1) := by decide +kernel
theorem dX4_breaks_22 : decode cX4_breaks 22 = .ok (.invokevirtual 96, 3) := by decide +kernel
theorem dX4_breaks_25 : decode cX4_breaks 25 = .ok (.ifCond .ne 6, 3) := by decide +kernel
theorem dX4_breaks_28 : decode cX4_breaks 28 = .ok (.bipush (-2), 2) := by decide +kernel
theorem dX4_breaks_30 : decode cX4_breaks 30 = .ok (.ireturn, 1) := by decide +kernel
theorem dX4_breaks_31 : decode cX4_breaks 31 = .ok (.aload_n 0, 1) := by decide +kernel
theorem dX4_breaks_32 : decode cX4_breaks 32 = .ok (.getfield 19, 3) := by decide +kernel
theorem dX4_breaks_35 : decode cX4_breaks 35 = .ok (.aload_n 0, 1) := by decide +kernel
theorem dX4_breaks_36 : decode cX4_breaks 36 = .ok (.getfield 38, 3) := by decide +kernel
theorem dX4_breaks_39 : decode cX4_breaks 39 = .ok (.getfield 110, 3) := by decide +kernel
theorem dX4_breaks_42 : decode cX4_breaks 42 = .ok (.iconst 4, 1) := by decide +kernel
theorem dX4_breaks_43 : decode cX4_breaks 43 = .ok (.invokevirtual 96, 3) := by decide +kernel
theorem dX4_breaks_46 : decode cX4_breaks 46 = .ok (.istore_n 1, 1) := by decide +kernel
theorem dX4_breaks_47 : decode cX4_breaks 47 = .ok (.aload_n 0, 1) := by decide +kernel
theorem dX4_breaks_48 : decode cX4_breaks 48 = .ok (.getfield 38, 3) := by decide +kernel
theorem dX4_breaks_51 : decode cX4_breaks 51 = .ok (.iload_n 1, 1) := by decide +kernel
theorem dX4_breaks_52 : decode cX4_breaks 52 = .ok (.aload_n 0, 1) := by decide +kernel
theorem dX4_breaks_53 : decode cX4_breaks 53 = .ok (.getfield 19, 3) := by decide +kernel
theorem dX4_breaks_56 : decode cX4_breaks 56 = .ok (.aload_n 0, 1) := by decide +kernel
theorem dX4_breaks_57 : decode cX4_breaks 57 = .ok (.getfield 38, 3) := by decide +kernel
theorem dX4_breaks_60 : decode cX4_breaks 60 = .ok (.getfield 110, 3) := by decide +kernel
theorem dX4_breaks_63 : decode cX4_breaks 63 = .ok (.iconst 0, 1) := by decide +kernel
theorem dX4_breaks_64 : decode cX4_breaks 64 = .ok (.invokevirtual 96, 3) := by decide +kernel
theorem dX4_breaks_67 : decode cX4_breaks 67 = .ok (.iload_n 1, 1) := by decide +kernel
theorem dX4_breaks_68 : decode cX4_breaks 68 = .ok (.isub, 1) := by decide +kernel
theorem dX4_breaks_69 : decode cX4_breaks 69 = .ok (.invokevirtual 116, 3) := by decide +kernel
theorem dX4_breaks_72 : decode cX4_breaks 72 = .ok (.ireturn, 1) := by decide +kernel
theorem dX4_omits_0 : decode cX4_omits 0 = .ok (.aload_n 0, 1) := by decide +kernel
theorem dX4_omits_1 : decode cX4_omits 1 = .ok (.getfield 38, 3) := by decide +kernel
theorem dX4_omits_4 : decode cX4_omits 4 = .ok (.invokevirtual 119, 3) := by decide +kernel
theorem dX4_omits_7 : decode cX4_omits 7 = .ok (.ifCond .eq 13, 3) := by decide +kernel
theorem dX4_omits_10 : decode cX4_omits 10 = .ok (.aload_n 0, 1) := by decide +kernel
theorem dX4_omits_11 : decode cX4_omits 11 = .ok (.getfield 38, 3) := by decide +kernel
theorem dX4_omits_14 : decode cX4_omits 14 = .ok (.invokevirtual 122, 3) := by decide +kernel
theorem dX4_omits_17 : decode cX4_omits 17 = .ok (.goto 5, 3) := by decide +kernel
theorem dX4_omits_20 : decode cX4_omits 20 = .ok (.bipush (-2), 2) := by decide +kernel
theorem dX4_omits_22 : decode cX4_omits 22 = .ok (.ireturn, 1) := by decide +kernel
theorem dX4_smaller_0 : decode cX4_smaller 0 = .ok (.iload_n 1, 1) := by decide +kernel
theorem dX4_smaller_1 : decode cX4_smaller 1 = .ok (.iconst 1, 1) := by decide +kernel
theorem dX4_smaller_2 : decode cX4_smaller 2 = .ok (.iconst 5, 1) := by decide +kernel
theorem dX4_smaller_3 : decode cX4_smaller 3 = .ok (.invokestatic 55, 3) := by decide +kernel
theorem dX4_smaller_6 : decode cX4_smaller 6 = .ok (.ifCond .ne 5, 3) := by decide +kernel
theorem dX4_smaller_9 : decode cX4_smaller 9 = .ok (.iconst (-1), 1) := by decide +kernel
theorem dX4_smaller_10 : decode cX4_smaller 10 = .ok (.ireturn, 1) := by decide +kernel
theorem dX4_smaller_11 : decode cX4_smaller 11 = .ok (.iload_n 1, 1) := by decide +kernel
theorem dX4_smaller_12 : decode cX4_smaller 12 = .ok (.aload_n 0, 1) := by decide +kernel
theorem dX4_smaller_13 : decode cX4_smaller 13 = .ok (.getfield 38, 3) := by decide +kernel
theorem dX4_smaller_16 : decode cX4_smaller 16 = .ok (.getfield 126, 3) := by decide +kernel
theorem dX4_smaller_19 : decode cX4_smaller 19 = .ok (.if_icmp .ge 14, 3) := by decide +kernel
theorem dX4_smaller_22 : decode cX4_smaller 22 = .ok (.iload_n 1, 1) := by decide +kernel
theorem dX4_smaller_23 : decode cX4_smaller 23 = .ok (.aload_n 0, 1) := by decide +kernel
theorem dX4_smaller_24 : decode cX4_smaller 24 = .ok (.getfield 19, 3) := by decide +kernel
theorem dX4_smaller_27 : decode cX4_smaller 27 = .ok (.getfield 129, 3) := by decide +kernel
theorem dX4_smaller_30 : decode cX4_smaller 30 = .ok (.if_icmp .ge 6, 3) := by decide +kernel
theorem dX4_smaller_33 : decode cX4_smaller 33 = .ok (.bipush (-2), 2) := by decide +kernel
theorem dX4_smaller_35 : decode cX4_smaller 35 = .ok (.ireturn, 1) := by decide +kernel
theorem dX4_smaller_36 : decode cX4_smaller 36 = .ok (.aload_n 0, 1) := by decide +kernel
theorem dX4_smaller_37 : decode cX4_smaller 37 = .ok (.getfield 38, 3) := by decide +kernel
theorem dX4_smaller_40 : decode cX4_smaller 40 = .ok (.iload_n 1, 1) := by decide +kernel
theorem dX4_smaller_41 : decode cX4_smaller 41 = .ok (.invokevirtual 132, 3) := by decide +kernel
theorem dX4_smaller_44 : decode cX4_smaller 44 = .ok (.ireturn, 1) := by decide +kernel
theorem dX4_turnsOver_0 : decode cX4_turnsOver 0 = .ok (.aload_n 0, 1) := by decide +kernel
theorem dX4_turnsOver_1 : decode cX4_turnsOver 1 = .ok (.getfield 19, 3) := by decide +kernel
theorem dX4_turnsOver_4 : decode cX4_turnsOver 4 = .ok (.aload_n 0, 1) := by decide +kernel
theorem dX4_turnsOver_5 : decode cX4_turnsOver 5 = .ok (.getfield 38, 3) := by decide +kernel
theorem dX4_turnsOver_8 : decode cX4_turnsOver 8 = .ok (.getfield 135, 3) := by decide +kernel
theorem dX4_turnsOver_11 : decode cX4_turnsOver 11 = .ok (.iconst 1, 1) := by decide +kernel
theorem dX4_turnsOver_12 : decode cX4_turnsOver 12 = .ok (.iadd, 1) := by decide +kernel
theorem dX4_turnsOver_13 : decode cX4_turnsOver 13 = .ok (.invokevirtual 86, 3) := by decide +kernel
theorem dX4_turnsOver_16 : decode cX4_turnsOver 16 = .ok (.ifCond .eq 13, 3) := by decide +kernel
theorem dX4_turnsOver_19 : decode cX4_turnsOver 19 = .ok (.aload_n 0, 1) := by decide +kernel
theorem dX4_turnsOver_20 : decode cX4_turnsOver 20 = .ok (.getfield 38, 3) := by decide +kernel
theorem dX4_turnsOver_23 : decode cX4_turnsOver 23 = .ok (.invokevirtual 138, 3) := by decide +kernel
theorem dX4_turnsOver_26 : decode cX4_turnsOver 26 = .ok (.goto 5, 3) := by decide +kernel
theorem dX4_turnsOver_29 : decode cX4_turnsOver 29 = .ok (.bipush (-2), 2) := by decide +kernel
theorem dX4_turnsOver_31 : decode cX4_turnsOver 31 = .ok (.ireturn, 1) := by decide +kernel
theorem dX4_undo_0 : decode cX4_undo 0 = .ok (.aload_n 0, 1) := by decide +kernel
theorem dX4_undo_1 : decode cX4_undo 1 = .ok (.getfield 38, 3) := by decide +kernel
theorem dX4_undo_4 : decode cX4_undo 4 = .ok (.getfield 141, 3) := by decide +kernel
theorem dX4_undo_7 : decode cX4_undo 7 = .ok (.ifCond .le 13, 3) := by decide +kernel
theorem dX4_undo_10 : decode cX4_undo 10 = .ok (.aload_n 0, 1) := by decide +kernel
theorem dX4_undo_11 : decode cX4_undo 11 = .ok (.getfield 38, 3) := by decide +kernel
theorem dX4_undo_14 : decode cX4_undo 14 = .ok (.invokevirtual 144, 3) := by decide +kernel
theorem dX4_undo_17 : decode cX4_undo 17 = .ok (.goto 5, 3) := by decide +kernel
theorem dX4_undo_20 : decode cX4_undo 20 = .ok (.bipush (-2), 2) := by decide +kernel
theorem dX4_undo_22 : decode cX4_undo 22 = .ok (.ireturn, 1) := by decide +kernel
theorem dX4_now_0 : decode cX4_now 0 = .ok (.iload_n 1, 1) := by decide +kernel
theorem dX4_now_1 : decode cX4_now 1 = .ok (.tableswitch 101 0 6 #[43, 51, 59, 67, 75, 83, 88], 43) := by decide +kernel
theorem dX4_now_44 : decode cX4_now 44 = .ok (.aload_n 0, 1) := by decide +kernel
theorem dX4_now_45 : decode cX4_now 45 = .ok (.getfield 38, 3) := by decide +kernel
theorem dX4_now_48 : decode cX4_now 48 = .ok (.getfield 110, 3) := by decide +kernel
theorem dX4_now_51 : decode cX4_now 51 = .ok (.ireturn, 1) := by decide +kernel
theorem dX4_now_52 : decode cX4_now 52 = .ok (.aload_n 0, 1) := by decide +kernel
theorem dX4_now_53 : decode cX4_now 53 = .ok (.getfield 38, 3) := by decide +kernel
theorem dX4_now_56 : decode cX4_now 56 = .ok (.getfield 135, 3) := by decide +kernel
theorem dX4_now_59 : decode cX4_now 59 = .ok (.ireturn, 1) := by decide +kernel
theorem dX4_now_60 : decode cX4_now 60 = .ok (.aload_n 0, 1) := by decide +kernel
theorem dX4_now_61 : decode cX4_now 61 = .ok (.getfield 38, 3) := by decide +kernel
theorem dX4_now_64 : decode cX4_now 64 = .ok (.getfield 147, 3) := by decide +kernel
theorem dX4_now_67 : decode cX4_now 67 = .ok (.ireturn, 1) := by decide +kernel
theorem dX4_now_68 : decode cX4_now 68 = .ok (.aload_n 0, 1) := by decide +kernel
theorem dX4_now_69 : decode cX4_now 69 = .ok (.getfield 38, 3) := by decide +kernel
theorem dX4_now_72 : decode cX4_now 72 = .ok (.getfield 126, 3) := by decide +kernel
theorem dX4_now_75 : decode cX4_now 75 = .ok (.ireturn, 1) := by decide +kernel
theorem dX4_now_76 : decode cX4_now 76 = .ok (.aload_n 0, 1) := by decide +kernel
theorem dX4_now_77 : decode cX4_now 77 = .ok (.getfield 38, 3) := by decide +kernel
theorem dX4_now_80 : decode cX4_now 80 = .ok (.getfield 100, 3) := by decide +kernel
theorem dX4_now_83 : decode cX4_now 83 = .ok (.ireturn, 1) := by decide +kernel
theorem dX4_now_84 : decode cX4_now 84 = .ok (.aload_n 0, 1) := by decide +kernel
theorem dX4_now_85 : decode cX4_now 85 = .ok (.invokevirtual 150, 3) := by decide +kernel
theorem dX4_now_88 : decode cX4_now 88 = .ok (.ireturn, 1) := by decide +kernel
theorem dX4_now_89 : decode cX4_now 89 = .ok (.aload_n 0, 1) := by decide +kernel
theorem dX4_now_90 : decode cX4_now 90 = .ok (.getfield 19, 3) := by decide +kernel
theorem dX4_now_93 : decode cX4_now 93 = .ok (.aload_n 0, 1) := by decide +kernel
theorem dX4_now_94 : decode cX4_now 94 = .ok (.invokevirtual 150, 3) := by decide +kernel
theorem dX4_now_97 : decode cX4_now 97 = .ok (.iconst 1, 1) := by decide +kernel
theorem dX4_now_98 : decode cX4_now 98 = .ok (.invokevirtual 153, 3) := by decide +kernel
theorem dX4_now_101 : decode cX4_now 101 = .ok (.ireturn, 1) := by decide +kernel
theorem dX4_now_102 : decode cX4_now 102 = .ok (.iconst (-1), 1) := by decide +kernel
theorem dX4_now_103 : decode cX4_now 103 = .ok (.ireturn, 1) := by decide +kernel
theorem dX4_makingSense_0 : decode cX4_makingSense 0 = .ok (.iconst 0, 1) := by decide +kernel
theorem dX4_makingSense_1 : decode cX4_makingSense 1 = .ok (.istore_n 1, 1) := by decide +kernel
theorem dX4_makingSense_2 : decode cX4_makingSense 2 = .ok (.iconst 0, 1) := by decide +kernel
theorem dX4_makingSense_3 : decode cX4_makingSense 3 = .ok (.istore_n 2, 1) := by decide +kernel
theorem dX4_makingSense_4 : decode cX4_makingSense 4 = .ok (.iload_n 2, 1) := by decide +kernel
theorem dX4_makingSense_5 : decode cX4_makingSense 5 = .ok (.aload_n 0, 1) := by decide +kernel
theorem dX4_makingSense_6 : decode cX4_makingSense 6 = .ok (.getfield 38, 3) := by decide +kernel
theorem dX4_makingSense_9 : decode cX4_makingSense 9 = .ok (.getfield 110, 3) := by decide +kernel
theorem dX4_makingSense_12 : decode cX4_makingSense 12 = .ok (.if_icmp .ge 67, 3) := by decide +kernel
theorem dX4_makingSense_15 : decode cX4_makingSense 15 = .ok (.aload_n 0, 1) := by decide +kernel
theorem dX4_makingSense_16 : decode cX4_makingSense 16 = .ok (.getfield 19, 3) := by decide +kernel
theorem dX4_makingSense_19 : decode cX4_makingSense 19 = .ok (.iload_n 2, 1) := by decide +kernel
theorem dX4_makingSense_20 : decode cX4_makingSense 20 = .ok (.invokevirtual 156, 3) := by decide +kernel
theorem dX4_makingSense_23 : decode cX4_makingSense 23 = .ok (.ifCond .eq 20, 3) := by decide +kernel
theorem dX4_makingSense_26 : decode cX4_makingSense 26 = .ok (.iload_n 1, 1) := by decide +kernel
theorem dX4_makingSense_27 : decode cX4_makingSense 27 = .ok (.aload_n 0, 1) := by decide +kernel
theorem dX4_makingSense_28 : decode cX4_makingSense 28 = .ok (.getfield 19, 3) := by decide +kernel
theorem dX4_makingSense_31 : decode cX4_makingSense 31 = .ok (.iload_n 2, 1) := by decide +kernel
theorem dX4_makingSense_32 : decode cX4_makingSense 32 = .ok (.iconst 2, 1) := by decide +kernel
theorem dX4_makingSense_33 : decode cX4_makingSense 33 = .ok (.invokevirtual 96, 3) := by decide +kernel
theorem dX4_makingSense_36 : decode cX4_makingSense 36 = .ok (.invokestatic 103, 3) := by decide +kernel
theorem dX4_makingSense_39 : decode cX4_makingSense 39 = .ok (.iconst 1, 1) := by decide +kernel
theorem dX4_makingSense_40 : decode cX4_makingSense 40 = .ok (.if_icmp .ne 7, 3) := by decide +kernel
theorem dX4_makingSense_43 : decode cX4_makingSense 43 = .ok (.iconst 1, 1) := by decide +kernel
theorem dX4_makingSense_44 : decode cX4_makingSense 44 = .ok (.goto 4, 3) := by decide +kernel
theorem dX4_makingSense_47 : decode cX4_makingSense 47 = .ok (.iconst 0, 1) := by decide +kernel
theorem dX4_makingSense_48 : decode cX4_makingSense 48 = .ok (.istore_n 3, 1) := by decide +kernel
theorem dX4_makingSense_49 : decode cX4_makingSense 49 = .ok (.aload_n 0, 1) := by decide +kernel
theorem dX4_makingSense_50 : decode cX4_makingSense 50 = .ok (.getfield 38, 3) := by decide +kernel
theorem dX4_makingSense_53 : decode cX4_makingSense 53 = .ok (.getfield 100, 3) := by decide +kernel
theorem dX4_makingSense_56 : decode cX4_makingSense 56 = .ok (.iload_n 2, 1) := by decide +kernel
theorem dX4_makingSense_57 : decode cX4_makingSense 57 = .ok (.invokestatic 103, 3) := by decide +kernel
theorem dX4_makingSense_60 : decode cX4_makingSense 60 = .ok (.ifCond .ne 13, 3) := by decide +kernel
theorem dX4_makingSense_63 : decode cX4_makingSense 63 = .ok (.iload_n 3, 1) := by decide +kernel
theorem dX4_makingSense_64 : decode cX4_makingSense 64 = .ok (.ifCond .eq 9, 3) := by decide +kernel
theorem dX4_makingSense_67 : decode cX4_makingSense 67 = .ok (.iload_n 1, 1) := by decide +kernel
theorem dX4_makingSense_68 : decode cX4_makingSense 68 = .ok (.iconst 1, 1) := by decide +kernel
theorem dX4_makingSense_69 : decode cX4_makingSense 69 = .ok (.iload_n 2, 1) := by decide +kernel
theorem dX4_makingSense_70 : decode cX4_makingSense 70 = .ok (.ishl, 1) := by decide +kernel
theorem dX4_makingSense_71 : decode cX4_makingSense 71 = .ok (.ior, 1) := by decide +kernel
theorem dX4_makingSense_72 : decode cX4_makingSense 72 = .ok (.istore_n 1, 1) := by decide +kernel
theorem dX4_makingSense_73 : decode cX4_makingSense 73 = .ok (.iinc 2 1, 3) := by decide +kernel
theorem dX4_makingSense_76 : decode cX4_makingSense 76 = .ok (.goto (-72), 3) := by decide +kernel
theorem dX4_makingSense_79 : decode cX4_makingSense 79 = .ok (.iload_n 1, 1) := by decide +kernel
theorem dX4_makingSense_80 : decode cX4_makingSense 80 = .ok (.ireturn, 1) := by decide +kernel
theorem dX4_fill_0 : decode cX4_fill 0 = .ok (.aload_n 0, 1) := by decide +kernel
theorem dX4_fill_1 : decode cX4_fill 1 = .ok (.iload_n 1, 1) := by decide +kernel
theorem dX4_fill_2 : decode cX4_fill 2 = .ok (.invokevirtual 159, 3) := by decide +kernel
theorem dX4_fill_5 : decode cX4_fill 5 = .ok (.ifCond .eq 27, 3) := by decide +kernel
theorem dX4_fill_8 : decode cX4_fill 8 = .ok (.iload_n 2, 1) := by decide +kernel
theorem dX4_fill_9 : decode cX4_fill 9 = .ok (.iconst 0, 1) := by decide +kernel
theorem dX4_fill_10 : decode cX4_fill 10 = .ok (.aload_n 0, 1) := by decide +kernel
theorem dX4_fill_11 : decode cX4_fill 11 = .ok (.getfield 19, 3) := by decide +kernel
theorem dX4_fill_14 : decode cX4_fill 14 = .ok (.invokevirtual 162, 3) := by decide +kernel
theorem dX4_fill_17 : decode cX4_fill 17 = .ok (.invokestatic 55, 3) := by decide +kernel
theorem dX4_fill_20 : decode cX4_fill 20 = .ok (.ifCond .eq 12, 3) := by decide +kernel
theorem dX4_fill_23 : decode cX4_fill 23 = .ok (.iload_n 3, 1) := by decide +kernel
theorem dX4_fill_24 : decode cX4_fill 24 = .ok (.iconst 0, 1) := by decide +kernel
theorem dX4_fill_25 : decode cX4_fill 25 = .ok (.iconst 1, 1) := by decide +kernel
theorem dX4_fill_26 : decode cX4_fill 26 = .ok (.invokestatic 55, 3) := by decide +kernel
theorem dX4_fill_29 : decode cX4_fill 29 = .ok (.ifCond .ne 5, 3) := by decide +kernel
theorem dX4_fill_32 : decode cX4_fill 32 = .ok (.iconst (-1), 1) := by decide +kernel
theorem dX4_fill_33 : decode cX4_fill 33 = .ok (.ireturn, 1) := by decide +kernel
theorem dX4_fill_34 : decode cX4_fill 34 = .ok (.iload_n 2, 1) := by decide +kernel
theorem dX4_fill_35 : decode cX4_fill 35 = .ok (.ifCond .eq 16, 3) := by decide +kernel
theorem dX4_fill_38 : decode cX4_fill 38 = .ok (.aload_n 0, 1) := by decide +kernel
theorem dX4_fill_39 : decode cX4_fill 39 = .ok (.getfield 31, 3) := by decide +kernel
theorem dX4_fill_42 : decode cX4_fill 42 = .ok (.iload_n 1, 1) := by decide +kernel
theorem dX4_fill_43 : decode cX4_fill 43 = .ok (.iload_n 2, 1) := by decide +kernel
theorem dX4_fill_44 : decode cX4_fill 44 = .ok (.iconst 0, 1) := by decide +kernel
theorem dX4_fill_45 : decode cX4_fill 45 = .ok (.invokevirtual 165, 3) := by decide +kernel
theorem dX4_fill_48 : decode cX4_fill 48 = .ok (.ifCond .ne 6, 3) := by decide +kernel
theorem dX4_fill_51 : decode cX4_fill 51 = .ok (.bipush (-9), 2) := by decide +kernel
theorem dX4_fill_53 : decode cX4_fill 53 = .ok (.ireturn, 1) := by decide +kernel
theorem dX4_fill_54 : decode cX4_fill 54 = .ok (.iload_n 3, 1) := by decide +kernel
theorem dX4_fill_55 : decode cX4_fill 55 = .ok (.ifCond .ne 13, 3) := by decide +kernel
theorem dX4_fill_58 : decode cX4_fill 58 = .ok (.aload_n 0, 1) := by decide +kernel
theorem dX4_fill_59 : decode cX4_fill 59 = .ok (.getfield 31, 3) := by decide +kernel
theorem dX4_fill_62 : decode cX4_fill 62 = .ok (.getfield 168, 3) := by decide +kernel
theorem dX4_fill_65 : decode cX4_fill 65 = .ok (.goto 10, 3) := by decide +kernel
theorem dX4_fill_68 : decode cX4_fill 68 = .ok (.aload_n 0, 1) := by decide +kernel
theorem dX4_fill_69 : decode cX4_fill 69 = .ok (.getfield 31, 3) := by decide +kernel
theorem dX4_fill_72 : decode cX4_fill 72 = .ok (.getfield 169, 3) := by decide +kernel
theorem dX4_fill_75 : decode cX4_fill 75 = .ok (.ireturn, 1) := by decide +kernel
theorem dX4_greatest_0 : decode cX4_greatest 0 = .ok (.iconst 5, 1) := by decide +kernel
theorem dX4_greatest_1 : decode cX4_greatest 1 = .ok (.istore_n 1, 1) := by decide +kernel
theorem dX4_greatest_2 : decode cX4_greatest 2 = .ok (.iload_n 1, 1) := by decide +kernel
theorem dX4_greatest_3 : decode cX4_greatest 3 = .ok (.aload_n 0, 1) := by decide +kernel
theorem dX4_greatest_4 : decode cX4_greatest 4 = .ok (.getfield 19, 3) := by decide +kernel
theorem dX4_greatest_7 : decode cX4_greatest 7 = .ok (.getfield 129, 3) := by decide +kernel
theorem dX4_greatest_10 : decode cX4_greatest 10 = .ok (.if_icmp .lt 30, 3) := by decide +kernel
theorem dX4_greatest_13 : decode cX4_greatest 13 = .ok (.aload_n 0, 1) := by decide +kernel
theorem dX4_greatest_14 : decode cX4_greatest 14 = .ok (.getfield 31, 3) := by decide +kernel
theorem dX4_greatest_17 : decode cX4_greatest 17 = .ok (.iload_n 1, 1) := by decide +kernel
theorem dX4_greatest_18 : decode cX4_greatest 18 = .ok (.aload_n 0, 1) := by decide +kernel
theorem dX4_greatest_19 : decode cX4_greatest 19 = .ok (.getfield 19, 3) := by decide +kernel
theorem dX4_greatest_22 : decode cX4_greatest 22 = .ok (.invokevirtual 162, 3) := by decide +kernel
theorem dX4_greatest_25 : decode cX4_greatest 25 = .ok (.iconst 0, 1) := by decide +kernel
theorem dX4_greatest_26 : decode cX4_greatest 26 = .ok (.invokevirtual 165, 3) := by decide +kernel
theorem dX4_greatest_29 : decode cX4_greatest 29 = .ok (.ifCond .eq 5, 3) := by decide +kernel
theorem dX4_greatest_32 : decode cX4_greatest 32 = .ok (.iload_n 1, 1) := by decide +kernel
theorem dX4_greatest_33 : decode cX4_greatest 33 = .ok (.ireturn, 1) := by decide +kernel
theorem dX4_greatest_34 : decode cX4_greatest 34 = .ok (.iinc 1 (-1), 3) := by decide +kernel
theorem dX4_greatest_37 : decode cX4_greatest 37 = .ok (.goto (-35), 3) := by decide +kernel
theorem dX4_greatest_40 : decode cX4_greatest 40 = .ok (.bipush (-9), 2) := by decide +kernel
theorem dX4_greatest_42 : decode cX4_greatest 42 = .ok (.ireturn, 1) := by decide +kernel
theorem dX4_even_0 : decode cX4_even 0 = .ok (.iload_n 1, 1) := by decide +kernel
theorem dX4_even_1 : decode cX4_even 1 = .ok (.iconst (-1), 1) := by decide +kernel
theorem dX4_even_2 : decode cX4_even 2 = .ok (.if_icmp .eq 16, 3) := by decide +kernel
theorem dX4_even_5 : decode cX4_even 5 = .ok (.aload_n 0, 1) := by decide +kernel
theorem dX4_even_6 : decode cX4_even 6 = .ok (.getfield 19, 3) := by decide +kernel
theorem dX4_even_9 : decode cX4_even 9 = .ok (.iload_n 1, 1) := by decide +kernel
theorem dX4_even_10 : decode cX4_even 10 = .ok (.invokevirtual 86, 3) := by decide +kernel
theorem dX4_even_13 : decode cX4_even 13 = .ok (.ifCond .ne 5, 3) := by decide +kernel
theorem dX4_even_16 : decode cX4_even 16 = .ok (.iconst (-1), 1) := by decide +kernel
theorem dX4_even_17 : decode cX4_even 17 = .ok (.ireturn, 1) := by decide +kernel
theorem dX4_even_18 : decode cX4_even 18 = .ok (.aload_n 0, 1) := by decide +kernel
theorem dX4_even_19 : decode cX4_even 19 = .ok (.invokevirtual 170, 3) := by decide +kernel
theorem dX4_even_22 : decode cX4_even 22 = .ok (.istore_n 2, 1) := by decide +kernel
theorem dX4_even_23 : decode cX4_even 23 = .ok (.iload_n 1, 1) := by decide +kernel
theorem dX4_even_24 : decode cX4_even 24 = .ok (.iconst (-1), 1) := by decide +kernel
theorem dX4_even_25 : decode cX4_even 25 = .ok (.if_icmp .ne 13, 3) := by decide +kernel
theorem dX4_even_28 : decode cX4_even 28 = .ok (.iload_n 2, 1) := by decide +kernel
theorem dX4_even_29 : decode cX4_even 29 = .ok (.bipush (-9), 2) := by decide +kernel
theorem dX4_even_31 : decode cX4_even 31 = .ok (.if_icmp .eq 7, 3) := by decide +kernel
theorem dX4_even_34 : decode cX4_even 34 = .ok (.iconst 0, 1) := by decide +kernel
theorem dX4_even_35 : decode cX4_even 35 = .ok (.goto 4, 3) := by decide +kernel
theorem dX4_even_38 : decode cX4_even 38 = .ok (.iload_n 2, 1) := by decide +kernel
theorem dX4_even_39 : decode cX4_even 39 = .ok (.ireturn, 1) := by decide +kernel
theorem dX4_kept_0 : decode cX4_kept 0 = .ok (.aload_n 0, 1) := by decide +kernel
theorem dX4_kept_1 : decode cX4_kept 1 = .ok (.iload_n 1, 1) := by decide +kernel
theorem dX4_kept_2 : decode cX4_kept 2 = .ok (.invokevirtual 159, 3) := by decide +kernel
theorem dX4_kept_5 : decode cX4_kept 5 = .ok (.ifCond .eq 12, 3) := by decide +kernel
theorem dX4_kept_8 : decode cX4_kept 8 = .ok (.iload_n 2, 1) := by decide +kernel
theorem dX4_kept_9 : decode cX4_kept 9 = .ok (.iconst 0, 1) := by decide +kernel
theorem dX4_kept_10 : decode cX4_kept 10 = .ok (.iconst 1, 1) := by decide +kernel
theorem dX4_kept_11 : decode cX4_kept 11 = .ok (.invokestatic 55, 3) := by decide +kernel
theorem dX4_kept_14 : decode cX4_kept 14 = .ok (.ifCond .ne 5, 3) := by decide +kernel
theorem dX4_kept_17 : decode cX4_kept 17 = .ok (.iconst (-1), 1) := by decide +kernel
theorem dX4_kept_18 : decode cX4_kept 18 = .ok (.ireturn, 1) := by decide +kernel
theorem dX4_kept_19 : decode cX4_kept 19 = .ok (.aload_n 0, 1) := by decide +kernel
theorem dX4_kept_20 : decode cX4_kept 20 = .ok (.iload_n 1, 1) := by decide +kernel
theorem dX4_kept_21 : decode cX4_kept 21 = .ok (.bipush 10, 2) := by decide +kernel
theorem dX4_kept_23 : decode cX4_kept 23 = .ok (.invokevirtual 173, 3) := by decide +kernel
theorem dX4_kept_26 : decode cX4_kept 26 = .ok (.istore_n 3, 1) := by decide +kernel
theorem dX4_kept_27 : decode cX4_kept 27 = .ok (.iload_n 2, 1) := by decide +kernel
theorem dX4_kept_28 : decode cX4_kept 28 = .ok (.ifCond .ne 15, 3) := by decide +kernel
theorem dX4_kept_31 : decode cX4_kept 31 = .ok (.aload_n 0, 1) := by decide +kernel
theorem dX4_kept_32 : decode cX4_kept 32 = .ok (.getfield 19, 3) := by decide +kernel
theorem dX4_kept_35 : decode cX4_kept 35 = .ok (.iload_n 3, 1) := by decide +kernel
theorem dX4_kept_36 : decode cX4_kept 36 = .ok (.iconst 1, 1) := by decide +kernel
theorem dX4_kept_37 : decode cX4_kept 37 = .ok (.invokevirtual 153, 3) := by decide +kernel
theorem dX4_kept_40 : decode cX4_kept 40 = .ok (.goto 4, 3) := by decide +kernel
theorem dX4_kept_43 : decode cX4_kept 43 = .ok (.iload_n 3, 1) := by decide +kernel
theorem dX4_kept_44 : decode cX4_kept 44 = .ok (.ireturn, 1) := by decide +kernel
theorem dX4_telegram_0 : decode cX4_telegram 0 = .ok (.iload_n 1, 1) := by decide +kernel
theorem dX4_telegram_1 : decode cX4_telegram 1 = .ok (.iconst 0, 1) := by decide +kernel
theorem dX4_telegram_2 : decode cX4_telegram 2 = .ok (.bipush 10, 2) := by decide +kernel
theorem dX4_telegram_4 : decode cX4_telegram 4 = .ok (.invokestatic 55, 3) := by decide +kernel
theorem dX4_telegram_7 : decode cX4_telegram 7 = .ok (.ifCond .eq 12, 3) := by decide +kernel
theorem dX4_telegram_10 : decode cX4_telegram 10 = .ok (.iload_n 2, 1) := by decide +kernel
theorem dX4_telegram_11 : decode cX4_telegram 11 = .ok (.iconst 0, 1) := by decide +kernel
theorem dX4_telegram_12 : decode cX4_telegram 12 = .ok (.iconst 1, 1) := by decide +kernel
theorem dX4_telegram_13 : decode cX4_telegram 13 = .ok (.invokestatic 55, 3) := by decide +kernel
theorem dX4_telegram_16 : decode cX4_telegram 16 = .ok (.ifCond .ne 5, 3) := by decide +kernel
theorem dX4_telegram_19 : decode cX4_telegram 19 = .ok (.iconst (-1), 1) := by decide +kernel
theorem dX4_telegram_20 : decode cX4_telegram 20 = .ok (.ireturn, 1) := by decide +kernel
theorem dX4_telegram_21 : decode cX4_telegram 21 = .ok (.aload_n 0, 1) := by decide +kernel
theorem dX4_telegram_22 : decode cX4_telegram 22 = .ok (.iconst 0, 1) := by decide +kernel
theorem dX4_telegram_23 : decode cX4_telegram 23 = .ok (.iload_n 1, 1) := by decide +kernel
theorem dX4_telegram_24 : decode cX4_telegram 24 = .ok (.invokevirtual 173, 3) := by decide +kernel
theorem dX4_telegram_27 : decode cX4_telegram 27 = .ok (.istore_n 3, 1) := by decide +kernel
theorem dX4_telegram_28 : decode cX4_telegram 28 = .ok (.iload_n 2, 1) := by decide +kernel
theorem dX4_telegram_29 : decode cX4_telegram 29 = .ok (.ifCond .ne 15, 3) := by decide +kernel
theorem dX4_telegram_32 : decode cX4_telegram 32 = .ok (.aload_n 0, 1) := by decide +kernel
theorem dX4_telegram_33 : decode cX4_telegram 33 = .ok (.getfield 19, 3) := by decide +kernel
theorem dX4_telegram_36 : decode cX4_telegram 36 = .ok (.iload_n 3, 1) := by decide +kernel
theorem dX4_telegram_37 : decode cX4_telegram 37 = .ok (.iconst 1, 1) := by decide +kernel
theorem dX4_telegram_38 : decode cX4_telegram 38 = .ok (.invokevirtual 153, 3) := by decide +kernel
theorem dX4_telegram_41 : decode cX4_telegram 41 = .ok (.goto 4, 3) := by decide +kernel
theorem dX4_telegram_44 : decode cX4_telegram 44 = .ok (.iload_n 3, 1) := by decide +kernel
theorem dX4_telegram_45 : decode cX4_telegram 45 = .ok (.ireturn, 1) := by decide +kernel
theorem dX4_bestSet_0 : decode cX4_bestSet 0 = .ok (.iconst 0, 1) := by decide +kernel
theorem dX4_bestSet_1 : decode cX4_bestSet 1 = .ok (.istore_n 3, 1) := by decide +kernel
theorem dX4_bestSet_2 : decode cX4_bestSet 2 = .ok (.iconst 0, 1) := by decide +kernel
theorem dX4_bestSet_3 : decode cX4_bestSet 3 = .ok (.istore 4, 2) := by decide +kernel
theorem dX4_bestSet_5 : decode cX4_bestSet 5 = .ok (.iconst 0, 1) := by decide +kernel
theorem dX4_bestSet_6 : decode cX4_bestSet 6 = .ok (.istore 5, 2) := by decide +kernel
theorem dX4_bestSet_8 : decode cX4_bestSet 8 = .ok (.iconst 1, 1) := by decide +kernel
theorem dX4_bestSet_9 : decode cX4_bestSet 9 = .ok (.istore 6, 2) := by decide +kernel
theorem dX4_bestSet_11 : decode cX4_bestSet 11 = .ok (.iload 6, 2) := by decide +kernel
theorem dX4_bestSet_13 : decode cX4_bestSet 13 = .ok (.aload_n 0, 1) := by decide +kernel
theorem dX4_bestSet_14 : decode cX4_bestSet 14 = .ok (.getfield 19, 3) := by decide +kernel
theorem dX4_bestSet_17 : decode cX4_bestSet 17 = .ok (.invokevirtual 162, 3) := by decide +kernel
theorem dX4_bestSet_20 : decode cX4_bestSet 20 = .ok (.if_icmp .gt 119, 3) := by decide +kernel
theorem dX4_bestSet_23 : decode cX4_bestSet 23 = .ok (.iload 6, 2) := by decide +kernel
theorem dX4_bestSet_25 : decode cX4_bestSet 25 = .ok (.invokestatic 176, 3) := by decide +kernel
theorem dX4_bestSet_28 : decode cX4_bestSet 28 = .ok (.iload_n 2, 1) := by decide +kernel
theorem dX4_bestSet_29 : decode cX4_bestSet 29 = .ok (.if_icmp .gt 104, 3) := by decide +kernel
theorem dX4_bestSet_32 : decode cX4_bestSet 32 = .ok (.aload_n 0, 1) := by decide +kernel
theorem dX4_bestSet_33 : decode cX4_bestSet 33 = .ok (.getfield 19, 3) := by decide +kernel
theorem dX4_bestSet_36 : decode cX4_bestSet 36 = .ok (.iload 6, 2) := by decide +kernel
theorem dX4_bestSet_38 : decode cX4_bestSet 38 = .ok (.invokevirtual 181, 3) := by decide +kernel
theorem dX4_bestSet_41 : decode cX4_bestSet 41 = .ok (.ifCond .ne 6, 3) := by decide +kernel
theorem dX4_bestSet_44 : decode cX4_bestSet 44 = .ok (.goto 89, 3) := by decide +kernel
theorem dX4_bestSet_47 : decode cX4_bestSet 47 = .ok (.aload_n 0, 1) := by decide +kernel
theorem dX4_bestSet_48 : decode cX4_bestSet 48 = .ok (.getfield 19, 3) := by decide +kernel
theorem dX4_bestSet_51 : decode cX4_bestSet 51 = .ok (.iload 6, 2) := by decide +kernel
theorem dX4_bestSet_53 : decode cX4_bestSet 53 = .ok (.iconst 1, 1) := by decide +kernel
theorem dX4_bestSet_54 : decode cX4_bestSet 54 = .ok (.invokevirtual 153, 3) := by decide +kernel
theorem dX4_bestSet_57 : decode cX4_bestSet 57 = .ok (.istore 7, 2) := by decide +kernel
theorem dX4_bestSet_59 : decode cX4_bestSet 59 = .ok (.aload_n 0, 1) := by decide +kernel
theorem dX4_bestSet_60 : decode cX4_bestSet 60 = .ok (.getfield 19, 3) := by decide +kernel
theorem dX4_bestSet_63 : decode cX4_bestSet 63 = .ok (.iload 6, 2) := by decide +kernel
theorem dX4_bestSet_65 : decode cX4_bestSet 65 = .ok (.iconst 0, 1) := by decide +kernel
theorem dX4_bestSet_66 : decode cX4_bestSet 66 = .ok (.invokevirtual 153, 3) := by decide +kernel
theorem dX4_bestSet_69 : decode cX4_bestSet 69 = .ok (.istore 8, 2) := by decide +kernel
theorem dX4_bestSet_71 : decode cX4_bestSet 71 = .ok (.iload 7, 2) := by decide +kernel
theorem dX4_bestSet_73 : decode cX4_bestSet 73 = .ok (.iload 4, 2) := by decide +kernel
theorem dX4_bestSet_75 : decode cX4_bestSet 75 = .ok (.if_icmp .gt 17, 3) := by decide +kernel
theorem dX4_bestSet_78 : decode cX4_bestSet 78 = .ok (.iload 7, 2) := by decide +kernel
theorem dX4_bestSet_80 : decode cX4_bestSet 80 = .ok (.iload 4, 2) := by decide +kernel
theorem dX4_bestSet_82 : decode cX4_bestSet 82 = .ok (.if_icmp .ne 14, 3) := by decide +kernel
theorem dX4_bestSet_85 : decode cX4_bestSet 85 = .ok (.iload 8, 2) := by decide +kernel
theorem dX4_bestSet_87 : decode cX4_bestSet 87 = .ok (.iload 5, 2) := by decide +kernel
theorem dX4_bestSet_89 : decode cX4_bestSet 89 = .ok (.if_icmp .ge 7, 3) := by decide +kernel
theorem dX4_bestSet_92 : decode cX4_bestSet 92 = .ok (.iconst 1, 1) := by decide +kernel
theorem dX4_bestSet_93 : decode cX4_bestSet 93 = .ok (.goto 4, 3) := by decide +kernel
theorem dX4_bestSet_96 : decode cX4_bestSet 96 = .ok (.iconst 0, 1) := by decide +kernel
theorem dX4_bestSet_97 : decode cX4_bestSet 97 = .ok (.istore 9, 2) := by decide +kernel
theorem dX4_bestSet_99 : decode cX4_bestSet 99 = .ok (.iload 9, 2) := by decide +kernel
theorem dX4_bestSet_101 : decode cX4_bestSet 101 = .ok (.ifCond .eq 32, 3) := by decide +kernel
theorem dX4_bestSet_104 : decode cX4_bestSet 104 = .ok (.iload_n 1, 1) := by decide +kernel
theorem dX4_bestSet_105 : decode cX4_bestSet 105 = .ok (.ifCond .eq 17, 3) := by decide +kernel
theorem dX4_bestSet_108 : decode cX4_bestSet 108 = .ok (.aload_n 0, 1) := by decide +kernel
theorem dX4_bestSet_109 : decode cX4_bestSet 109 = .ok (.getfield 31, 3) := by decide +kernel
theorem dX4_bestSet_112 : decode cX4_bestSet 112 = .ok (.iload_n 1, 1) := by decide +kernel
theorem dX4_bestSet_113 : decode cX4_bestSet 113 = .ok (.iload 6, 2) := by decide +kernel
theorem dX4_bestSet_115 : decode cX4_bestSet 115 = .ok (.iconst 0, 1) := by decide +kernel
theorem dX4_bestSet_116 : decode cX4_bestSet 116 = .ok (.invokevirtual 165, 3) := by decide +kernel
theorem dX4_bestSet_119 : decode cX4_bestSet 119 = .ok (.ifCond .eq 14, 3) := by decide +kernel
theorem dX4_bestSet_122 : decode cX4_bestSet 122 = .ok (.iload 6, 2) := by decide +kernel
theorem dX4_bestSet_124 : decode cX4_bestSet 124 = .ok (.istore_n 3, 1) := by decide +kernel
theorem dX4_bestSet_125 : decode cX4_bestSet 125 = .ok (.iload 7, 2) := by decide +kernel
theorem dX4_bestSet_127 : decode cX4_bestSet 127 = .ok (.istore 4, 2) := by decide +kernel
theorem dX4_bestSet_129 : decode cX4_bestSet 129 = .ok (.iload 8, 2) := by decide +kernel
theorem dX4_bestSet_131 : decode cX4_bestSet 131 = .ok (.istore 5, 2) := by decide +kernel
theorem dX4_bestSet_133 : decode cX4_bestSet 133 = .ok (.iinc 6 1, 3) := by decide +kernel
theorem dX4_bestSet_136 : decode cX4_bestSet 136 = .ok (.goto (-125), 3) := by decide +kernel
theorem dX4_bestSet_139 : decode cX4_bestSet 139 = .ok (.iload_n 3, 1) := by decide +kernel
theorem dX4_bestSet_140 : decode cX4_bestSet 140 = .ok (.ireturn, 1) := by decide +kernel
theorem dX4_begun_0 : decode cX4_begun 0 = .ok (.aload_n 0, 1) := by decide +kernel
theorem dX4_begun_1 : decode cX4_begun 1 = .ok (.iload_n 1, 1) := by decide +kernel
theorem dX4_begun_2 : decode cX4_begun 2 = .ok (.invokevirtual 159, 3) := by decide +kernel
theorem dX4_begun_5 : decode cX4_begun 5 = .ok (.ifCond .eq 13, 3) := by decide +kernel
theorem dX4_begun_8 : decode cX4_begun 8 = .ok (.iload_n 2, 1) := by decide +kernel
theorem dX4_begun_9 : decode cX4_begun 9 = .ok (.iconst 0, 1) := by decide +kernel
theorem dX4_begun_10 : decode cX4_begun 10 = .ok (.bipush 60, 2) := by decide +kernel
theorem dX4_begun_12 : decode cX4_begun 12 = .ok (.invokestatic 55, 3) := by decide +kernel
theorem dX4_begun_15 : decode cX4_begun 15 = .ok (.ifCond .ne 5, 3) := by decide +kernel
theorem dX4_begun_18 : decode cX4_begun 18 = .ok (.iconst (-1), 1) := by decide +kernel
theorem dX4_begun_19 : decode cX4_begun 19 = .ok (.ireturn, 1) := by decide +kernel
theorem dX4_begun_20 : decode cX4_begun 20 = .ok (.aload_n 0, 1) := by decide +kernel
theorem dX4_begun_21 : decode cX4_begun 21 = .ok (.getfield 31, 3) := by decide +kernel
theorem dX4_begun_24 : decode cX4_begun 24 = .ok (.iload_n 1, 1) := by decide +kernel
theorem dX4_begun_25 : decode cX4_begun 25 = .ok (.iload_n 2, 1) := by decide +kernel
theorem dX4_begun_26 : decode cX4_begun 26 = .ok (.invokevirtual 184, 3) := by decide +kernel
theorem dX4_begun_29 : decode cX4_begun 29 = .ok (.ireturn, 1) := by decide +kernel
theorem dX4_odds_0 : decode cX4_odds 0 = .ok (.aload_n 0, 1) := by decide +kernel
theorem dX4_odds_1 : decode cX4_odds 1 = .ok (.iload_n 1, 1) := by decide +kernel
theorem dX4_odds_2 : decode cX4_odds 2 = .ok (.invokevirtual 159, 3) := by decide +kernel
theorem dX4_odds_5 : decode cX4_odds 5 = .ok (.ifCond .eq 22, 3) := by decide +kernel
theorem dX4_odds_8 : decode cX4_odds 8 = .ok (.iload_n 2, 1) := by decide +kernel
theorem dX4_odds_9 : decode cX4_odds 9 = .ok (.iconst 0, 1) := by decide +kernel
theorem dX4_odds_10 : decode cX4_odds 10 = .ok (.bipush 10, 2) := by decide +kernel
theorem dX4_odds_12 : decode cX4_odds 12 = .ok (.invokestatic 55, 3) := by decide +kernel
theorem dX4_odds_15 : decode cX4_odds 15 = .ok (.ifCond .eq 12, 3) := by decide +kernel
theorem dX4_odds_18 : decode cX4_odds 18 = .ok (.iload_n 3, 1) := by decide +kernel
theorem dX4_odds_19 : decode cX4_odds 19 = .ok (.iconst 0, 1) := by decide +kernel
theorem dX4_odds_20 : decode cX4_odds 20 = .ok (.iconst 1, 1) := by decide +kernel
theorem dX4_odds_21 : decode cX4_odds 21 = .ok (.invokestatic 55, 3) := by decide +kernel
theorem dX4_odds_24 : decode cX4_odds 24 = .ok (.ifCond .ne 7, 3) := by decide +kernel
theorem dX4_odds_27 : decode cX4_odds 27 = .ok (.ldc2_w 187, 3) := by decide +kernel
theorem dX4_odds_30 : decode cX4_odds 30 = .ok (.lreturn, 1) := by decide +kernel
theorem dX4_odds_31 : decode cX4_odds 31 = .ok (.aload_n 0, 1) := by decide +kernel
theorem dX4_odds_32 : decode cX4_odds 32 = .ok (.getfield 19, 3) := by decide +kernel
theorem dX4_odds_35 : decode cX4_odds 35 = .ok (.getfield 189, 3) := by decide +kernel
theorem dX4_odds_38 : decode cX4_odds 38 = .ok (.bipush 9, 2) := by decide +kernel
theorem dX4_odds_40 : decode cX4_odds 40 = .ok (.invokestatic 192, 3) := by decide +kernel
theorem dX4_odds_43 : decode cX4_odds 43 = .ok (.istore 4, 2) := by decide +kernel
theorem dX4_odds_45 : decode cX4_odds 45 = .ok (.lconst 0, 1) := by decide +kernel
theorem dX4_odds_46 : decode cX4_odds 46 = .ok (.lstore 5, 2) := by decide +kernel
theorem dX4_odds_48 : decode cX4_odds 48 = .ok (.iconst 0, 1) := by decide +kernel
theorem dX4_odds_49 : decode cX4_odds 49 = .ok (.istore 7, 2) := by decide +kernel
theorem dX4_odds_51 : decode cX4_odds 51 = .ok (.iload 7, 2) := by decide +kernel
theorem dX4_odds_53 : decode cX4_odds 53 = .ok (.iconst 1, 1) := by decide +kernel
theorem dX4_odds_54 : decode cX4_odds 54 = .ok (.iload 4, 2) := by decide +kernel
theorem dX4_odds_56 : decode cX4_odds 56 = .ok (.ishl, 1) := by decide +kernel
theorem dX4_odds_57 : decode cX4_odds 57 = .ok (.if_icmp .ge 60, 3) := by decide +kernel
theorem dX4_odds_60 : decode cX4_odds 60 = .ok (.aload_n 0, 1) := by decide +kernel
theorem dX4_odds_61 : decode cX4_odds 61 = .ok (.getfield 31, 3) := by decide +kernel
theorem dX4_odds_64 : decode cX4_odds 64 = .ok (.iload_n 1, 1) := by decide +kernel
theorem dX4_odds_65 : decode cX4_odds 65 = .ok (.aload_n 0, 1) := by decide +kernel
theorem dX4_odds_66 : decode cX4_odds 66 = .ok (.getfield 19, 3) := by decide +kernel
theorem dX4_odds_69 : decode cX4_odds 69 = .ok (.invokevirtual 162, 3) := by decide +kernel
theorem dX4_odds_72 : decode cX4_odds 72 = .ok (.iload 7, 2) := by decide +kernel
theorem dX4_odds_74 : decode cX4_odds 74 = .ok (.invokevirtual 165, 3) := by decide +kernel
theorem dX4_odds_77 : decode cX4_odds 77 = .ok (.ifCond .eq 34, 3) := by decide +kernel
theorem dX4_odds_80 : decode cX4_odds 80 = .ok (.iload 7, 2) := by decide +kernel
theorem dX4_odds_82 : decode cX4_odds 82 = .ok (.invokestatic 176, 3) := by decide +kernel
theorem dX4_odds_85 : decode cX4_odds 85 = .ok (.istore 8, 2) := by decide +kernel
theorem dX4_odds_87 : decode cX4_odds 87 = .ok (.lload 5, 2) := by decide +kernel
theorem dX4_odds_89 : decode cX4_odds 89 = .ok (.iload_n 2, 1) := by decide +kernel
theorem dX4_odds_90 : decode cX4_odds 90 = .ok (.iload 8, 2) := by decide +kernel
theorem dX4_odds_92 : decode cX4_odds 92 = .ok (.invokestatic 197, 3) := by decide +kernel
theorem dX4_odds_95 : decode cX4_odds 95 = .ok (.bipush 10, 2) := by decide +kernel
theorem dX4_odds_97 : decode cX4_odds 97 = .ok (.iload_n 2, 1) := by decide +kernel
theorem dX4_odds_98 : decode cX4_odds 98 = .ok (.isub, 1) := by decide +kernel
theorem dX4_odds_99 : decode cX4_odds 99 = .ok (.iload 4, 2) := by decide +kernel
theorem dX4_odds_101 : decode cX4_odds 101 = .ok (.iload 8, 2) := by decide +kernel
theorem dX4_odds_103 : decode cX4_odds 103 = .ok (.isub, 1) := by decide +kernel
theorem dX4_odds_104 : decode cX4_odds 104 = .ok (.invokestatic 197, 3) := by decide +kernel
theorem dX4_odds_107 : decode cX4_odds 107 = .ok (.lmul, 1) := by decide +kernel
theorem dX4_odds_108 : decode cX4_odds 108 = .ok (.ladd, 1) := by decide +kernel
theorem dX4_odds_109 : decode cX4_odds 109 = .ok (.lstore 5, 2) := by decide +kernel
theorem dX4_odds_111 : decode cX4_odds 111 = .ok (.iinc 7 1, 3) := by decide +kernel
theorem dX4_odds_114 : decode cX4_odds 114 = .ok (.goto (-63), 3) := by decide +kernel
theorem dX4_odds_117 : decode cX4_odds 117 = .ok (.lload 5, 2) := by decide +kernel
theorem dX4_odds_119 : decode cX4_odds 119 = .ok (.iload 4, 2) := by decide +kernel
theorem dX4_odds_121 : decode cX4_odds 121 = .ok (.iload_n 3, 1) := by decide +kernel
theorem dX4_odds_122 : decode cX4_odds 122 = .ok (.invokestatic 201, 3) := by decide +kernel
theorem dX4_odds_125 : decode cX4_odds 125 = .ok (.lreturn, 1) := by decide +kernel
theorem dX4_leastTerm_0 : decode cX4_leastTerm 0 = .ok (.bipush 10, 2) := by decide +kernel
theorem dX4_leastTerm_2 : decode cX4_leastTerm 2 = .ok (.iload_n 2, 1) := by decide +kernel
theorem dX4_leastTerm_3 : decode cX4_leastTerm 3 = .ok (.invokestatic 197, 3) := by decide +kernel
theorem dX4_leastTerm_6 : decode cX4_leastTerm 6 = .ok (.lstore 4, 2) := by decide +kernel
theorem dX4_leastTerm_8 : decode cX4_leastTerm 8 = .ok (.iconst 0, 1) := by decide +kernel
theorem dX4_leastTerm_9 : decode cX4_leastTerm 9 = .ok (.istore 6, 2) := by decide +kernel
theorem dX4_leastTerm_11 : decode cX4_leastTerm 11 = .ok (.iload 6, 2) := by decide +kernel
theorem dX4_leastTerm_13 : decode cX4_leastTerm 13 = .ok (.iload_n 2, 1) := by decide +kernel
theorem dX4_leastTerm_14 : decode cX4_leastTerm 14 = .ok (.if_icmp .ge 57, 3) := by decide +kernel
theorem dX4_leastTerm_17 : decode cX4_leastTerm 17 = .ok (.lload_n 0, 1) := by decide +kernel
theorem dX4_leastTerm_18 : decode cX4_leastTerm 18 = .ok (.ldc2_w 205, 3) := by decide +kernel
theorem dX4_leastTerm_21 : decode cX4_leastTerm 21 = .ok (.lrem, 1) := by decide +kernel
theorem dX4_leastTerm_22 : decode cX4_leastTerm 22 = .ok (.lconst 0, 1) := by decide +kernel
theorem dX4_leastTerm_23 : decode cX4_leastTerm 23 = .ok (.lcmp, 1) := by decide +kernel
theorem dX4_leastTerm_24 : decode cX4_leastTerm 24 = .ok (.ifCond .ne 17, 3) := by decide +kernel
theorem dX4_leastTerm_27 : decode cX4_leastTerm 27 = .ok (.lload_n 0, 1) := by decide +kernel
theorem dX4_leastTerm_28 : decode cX4_leastTerm 28 = .ok (.ldc2_w 205, 3) := by decide +kernel
theorem dX4_leastTerm_31 : decode cX4_leastTerm 31 = .ok (.ldiv, 1) := by decide +kernel
theorem dX4_leastTerm_32 : decode cX4_leastTerm 32 = .ok (.lstore_n 0, 1) := by decide +kernel
theorem dX4_leastTerm_33 : decode cX4_leastTerm 33 = .ok (.lload 4, 2) := by decide +kernel
theorem dX4_leastTerm_35 : decode cX4_leastTerm 35 = .ok (.ldc2_w 205, 3) := by decide +kernel
theorem dX4_leastTerm_38 : decode cX4_leastTerm 38 = .ok (.ldiv, 1) := by decide +kernel
theorem dX4_leastTerm_39 : decode cX4_leastTerm 39 = .ok (.lstore 4, 2) := by decide +kernel
theorem dX4_leastTerm_41 : decode cX4_leastTerm 41 = .ok (.lload_n 0, 1) := by decide +kernel
theorem dX4_leastTerm_42 : decode cX4_leastTerm 42 = .ok (.ldc2_w 207, 3) := by decide +kernel
theorem dX4_leastTerm_45 : decode cX4_leastTerm 45 = .ok (.lrem, 1) := by decide +kernel
theorem dX4_leastTerm_46 : decode cX4_leastTerm 46 = .ok (.lconst 0, 1) := by decide +kernel
theorem dX4_leastTerm_47 : decode cX4_leastTerm 47 = .ok (.lcmp, 1) := by decide +kernel
theorem dX4_leastTerm_48 : decode cX4_leastTerm 48 = .ok (.ifCond .ne 17, 3) := by decide +kernel
theorem dX4_leastTerm_51 : decode cX4_leastTerm 51 = .ok (.lload_n 0, 1) := by decide +kernel
theorem dX4_leastTerm_52 : decode cX4_leastTerm 52 = .ok (.ldc2_w 207, 3) := by decide +kernel
theorem dX4_leastTerm_55 : decode cX4_leastTerm 55 = .ok (.ldiv, 1) := by decide +kernel
theorem dX4_leastTerm_56 : decode cX4_leastTerm 56 = .ok (.lstore_n 0, 1) := by decide +kernel
theorem dX4_leastTerm_57 : decode cX4_leastTerm 57 = .ok (.lload 4, 2) := by decide +kernel
theorem dX4_leastTerm_59 : decode cX4_leastTerm 59 = .ok (.ldc2_w 207, 3) := by decide +kernel
theorem dX4_leastTerm_62 : decode cX4_leastTerm 62 = .ok (.ldiv, 1) := by decide +kernel
theorem dX4_leastTerm_63 : decode cX4_leastTerm 63 = .ok (.lstore 4, 2) := by decide +kernel
theorem dX4_leastTerm_65 : decode cX4_leastTerm 65 = .ok (.iinc 6 1, 3) := by decide +kernel
theorem dX4_leastTerm_68 : decode cX4_leastTerm 68 = .ok (.goto (-57), 3) := by decide +kernel
theorem dX4_leastTerm_71 : decode cX4_leastTerm 71 = .ok (.iload_n 3, 1) := by decide +kernel
theorem dX4_leastTerm_72 : decode cX4_leastTerm 72 = .ok (.ifCond .ne 7, 3) := by decide +kernel
theorem dX4_leastTerm_75 : decode cX4_leastTerm 75 = .ok (.lload_n 0, 1) := by decide +kernel
theorem dX4_leastTerm_76 : decode cX4_leastTerm 76 = .ok (.goto 5, 3) := by decide +kernel
theorem dX4_leastTerm_79 : decode cX4_leastTerm 79 = .ok (.lload 4, 2) := by decide +kernel
theorem dX4_leastTerm_81 : decode cX4_leastTerm 81 = .ok (.lreturn, 1) := by decide +kernel
theorem dX4_power_0 : decode cX4_power 0 = .ok (.lconst 1, 1) := by decide +kernel
theorem dX4_power_1 : decode cX4_power 1 = .ok (.lstore_n 2, 1) := by decide +kernel
theorem dX4_power_2 : decode cX4_power 2 = .ok (.iconst 0, 1) := by decide +kernel
theorem dX4_power_3 : decode cX4_power 3 = .ok (.istore 4, 2) := by decide +kernel
theorem dX4_power_5 : decode cX4_power 5 = .ok (.iload 4, 2) := by decide +kernel
theorem dX4_power_7 : decode cX4_power 7 = .ok (.iload_n 1, 1) := by decide +kernel
theorem dX4_power_8 : decode cX4_power 8 = .ok (.if_icmp .ge 14, 3) := by decide +kernel
theorem dX4_power_11 : decode cX4_power 11 = .ok (.lload_n 2, 1) := by decide +kernel
theorem dX4_power_12 : decode cX4_power 12 = .ok (.iload_n 0, 1) := by decide +kernel
theorem dX4_power_13 : decode cX4_power 13 = .ok (.i2l, 1) := by decide +kernel
theorem dX4_power_14 : decode cX4_power 14 = .ok (.lmul, 1) := by decide +kernel
theorem dX4_power_15 : decode cX4_power 15 = .ok (.lstore_n 2, 1) := by decide +kernel
theorem dX4_power_16 : decode cX4_power 16 = .ok (.iinc 4 1, 3) := by decide +kernel
theorem dX4_power_19 : decode cX4_power 19 = .ok (.goto (-14), 3) := by decide +kernel
theorem dX4_power_22 : decode cX4_power 22 = .ok (.lload_n 2, 1) := by decide +kernel
theorem dX4_power_23 : decode cX4_power 23 = .ok (.lreturn, 1) := by decide +kernel
theorem dX4_saw_0 : decode cX4_saw 0 = .ok (.aload_n 0, 1) := by decide +kernel
theorem dX4_saw_1 : decode cX4_saw 1 = .ok (.getfield 19, 3) := by decide +kernel
theorem dX4_saw_4 : decode cX4_saw 4 = .ok (.iload_n 1, 1) := by decide +kernel
theorem dX4_saw_5 : decode cX4_saw 5 = .ok (.invokevirtual 93, 3) := by decide +kernel
theorem dX4_saw_8 : decode cX4_saw 8 = .ok (.ifCond .eq 14, 3) := by decide +kernel
theorem dX4_saw_11 : decode cX4_saw 11 = .ok (.aload_n 0, 1) := by decide +kernel
theorem dX4_saw_12 : decode cX4_saw 12 = .ok (.getfield 19, 3) := by decide +kernel
theorem dX4_saw_15 : decode cX4_saw 15 = .ok (.iload_n 2, 1) := by decide +kernel
theorem dX4_saw_16 : decode cX4_saw 16 = .ok (.invokevirtual 86, 3) := by decide +kernel
theorem dX4_saw_19 : decode cX4_saw 19 = .ok (.ifCond .ne 5, 3) := by decide +kernel
theorem dX4_saw_22 : decode cX4_saw 22 = .ok (.iconst (-1), 1) := by decide +kernel
theorem dX4_saw_23 : decode cX4_saw 23 = .ok (.ireturn, 1) := by decide +kernel
theorem dX4_saw_24 : decode cX4_saw 24 = .ok (.aload_n 0, 1) := by decide +kernel
theorem dX4_saw_25 : decode cX4_saw 25 = .ok (.getfield 80, 3) := by decide +kernel
theorem dX4_saw_28 : decode cX4_saw 28 = .ok (.bipush 6, 2) := by decide +kernel
theorem dX4_saw_30 : decode cX4_saw 30 = .ok (.if_icmp .lt 6, 3) := by decide +kernel
theorem dX4_saw_33 : decode cX4_saw 33 = .ok (.bipush (-3), 2) := by decide +kernel
theorem dX4_saw_35 : decode cX4_saw 35 = .ok (.ireturn, 1) := by decide +kernel
theorem dX4_saw_36 : decode cX4_saw 36 = .ok (.aload_n 0, 1) := by decide +kernel
theorem dX4_saw_37 : decode cX4_saw 37 = .ok (.getfield 48, 3) := by decide +kernel
theorem dX4_saw_40 : decode cX4_saw 40 = .ok (.aload_n 0, 1) := by decide +kernel
theorem dX4_saw_41 : decode cX4_saw 41 = .ok (.getfield 80, 3) := by decide +kernel
theorem dX4_saw_44 : decode cX4_saw 44 = .ok (.iload_n 1, 1) := by decide +kernel
theorem dX4_saw_45 : decode cX4_saw 45 = .ok (.iastore, 1) := by decide +kernel
theorem dX4_saw_46 : decode cX4_saw 46 = .ok (.aload_n 0, 1) := by decide +kernel
theorem dX4_saw_47 : decode cX4_saw 47 = .ok (.getfield 52, 3) := by decide +kernel
theorem dX4_saw_50 : decode cX4_saw 50 = .ok (.aload_n 0, 1) := by decide +kernel
theorem dX4_saw_51 : decode cX4_saw 51 = .ok (.getfield 80, 3) := by decide +kernel
theorem dX4_saw_54 : decode cX4_saw 54 = .ok (.iload_n 2, 1) := by decide +kernel
theorem dX4_saw_55 : decode cX4_saw 55 = .ok (.iastore, 1) := by decide +kernel
theorem dX4_saw_56 : decode cX4_saw 56 = .ok (.aload_n 0, 1) := by decide +kernel
theorem dX4_saw_57 : decode cX4_saw 57 = .ok (.dup, 1) := by decide +kernel
theorem dX4_saw_58 : decode cX4_saw 58 = .ok (.getfield 80, 3) := by decide +kernel
theorem dX4_saw_61 : decode cX4_saw 61 = .ok (.iconst 1, 1) := by decide +kernel
theorem dX4_saw_62 : decode cX4_saw 62 = .ok (.iadd, 1) := by decide +kernel
theorem dX4_saw_63 : decode cX4_saw 63 = .ok (.putfield 80, 3) := by decide +kernel
theorem dX4_saw_66 : decode cX4_saw 66 = .ok (.aload_n 0, 1) := by decide +kernel
theorem dX4_saw_67 : decode cX4_saw 67 = .ok (.getfield 80, 3) := by decide +kernel
theorem dX4_saw_70 : decode cX4_saw 70 = .ok (.ireturn, 1) := by decide +kernel
theorem dX4_forget_0 : decode cX4_forget 0 = .ok (.aload_n 0, 1) := by decide +kernel
theorem dX4_forget_1 : decode cX4_forget 1 = .ok (.getfield 80, 3) := by decide +kernel
theorem dX4_forget_4 : decode cX4_forget 4 = .ok (.istore_n 1, 1) := by decide +kernel
theorem dX4_forget_5 : decode cX4_forget 5 = .ok (.aload_n 0, 1) := by decide +kernel
theorem dX4_forget_6 : decode cX4_forget 6 = .ok (.iconst 0, 1) := by decide +kernel
theorem dX4_forget_7 : decode cX4_forget 7 = .ok (.putfield 80, 3) := by decide +kernel
theorem dX4_forget_10 : decode cX4_forget 10 = .ok (.iload_n 1, 1) := by decide +kernel
theorem dX4_forget_11 : decode cX4_forget 11 = .ok (.ireturn, 1) := by decide +kernel
theorem dX4_sizes_0 : decode cX4_sizes 0 = .ok (.iconst 0, 1) := by decide +kernel
theorem dX4_sizes_1 : decode cX4_sizes 1 = .ok (.istore_n 1, 1) := by decide +kernel
theorem dX4_sizes_2 : decode cX4_sizes 2 = .ok (.aload_n 0, 1) := by decide +kernel
theorem dX4_sizes_3 : decode cX4_sizes 3 = .ok (.getfield 19, 3) := by decide +kernel
theorem dX4_sizes_6 : decode cX4_sizes 6 = .ok (.getfield 129, 3) := by decide +kernel
theorem dX4_sizes_9 : decode cX4_sizes 9 = .ok (.istore_n 2, 1) := by decide +kernel
theorem dX4_sizes_10 : decode cX4_sizes 10 = .ok (.iload_n 2, 1) := by decide +kernel
theorem dX4_sizes_11 : decode cX4_sizes 11 = .ok (.iconst 5, 1) := by decide +kernel
theorem dX4_sizes_12 : decode cX4_sizes 12 = .ok (.if_icmp .gt 41, 3) := by decide +kernel
theorem dX4_sizes_15 : decode cX4_sizes 15 = .ok (.aload_n 0, 1) := by decide +kernel
theorem dX4_sizes_16 : decode cX4_sizes 16 = .ok (.getfield 31, 3) := by decide +kernel
theorem dX4_sizes_19 : decode cX4_sizes 19 = .ok (.iload_n 2, 1) := by decide +kernel
theorem dX4_sizes_20 : decode cX4_sizes 20 = .ok (.aload_n 0, 1) := by decide +kernel
theorem dX4_sizes_21 : decode cX4_sizes 21 = .ok (.getfield 19, 3) := by decide +kernel
theorem dX4_sizes_24 : decode cX4_sizes 24 = .ok (.invokevirtual 162, 3) := by decide +kernel
theorem dX4_sizes_27 : decode cX4_sizes 27 = .ok (.iconst 0, 1) := by decide +kernel
theorem dX4_sizes_28 : decode cX4_sizes 28 = .ok (.invokevirtual 165, 3) := by decide +kernel
theorem dX4_sizes_31 : decode cX4_sizes 31 = .ok (.ifCond .eq 16, 3) := by decide +kernel
theorem dX4_sizes_34 : decode cX4_sizes 34 = .ok (.aload_n 0, 1) := by decide +kernel
theorem dX4_sizes_35 : decode cX4_sizes 35 = .ok (.invokevirtual 209, 3) := by decide +kernel
theorem dX4_sizes_38 : decode cX4_sizes 38 = .ok (.ifCond .eq 9, 3) := by decide +kernel
theorem dX4_sizes_41 : decode cX4_sizes 41 = .ok (.iload_n 1, 1) := by decide +kernel
theorem dX4_sizes_42 : decode cX4_sizes 42 = .ok (.iconst 1, 1) := by decide +kernel
theorem dX4_sizes_43 : decode cX4_sizes 43 = .ok (.iload_n 2, 1) := by decide +kernel
theorem dX4_sizes_44 : decode cX4_sizes 44 = .ok (.ishl, 1) := by decide +kernel
theorem dX4_sizes_45 : decode cX4_sizes 45 = .ok (.ior, 1) := by decide +kernel
theorem dX4_sizes_46 : decode cX4_sizes 46 = .ok (.istore_n 1, 1) := by decide +kernel
theorem dX4_sizes_47 : decode cX4_sizes 47 = .ok (.iinc 2 1, 3) := by decide +kernel
theorem dX4_sizes_50 : decode cX4_sizes 50 = .ok (.goto (-40), 3) := by decide +kernel
theorem dX4_sizes_53 : decode cX4_sizes 53 = .ok (.iload_n 1, 1) := by decide +kernel
theorem dX4_sizes_54 : decode cX4_sizes 54 = .ok (.ireturn, 1) := by decide +kernel
theorem dX4_isAsSeen_0 : decode cX4_isAsSeen 0 = .ok (.iconst 0, 1) := by decide +kernel
theorem dX4_isAsSeen_1 : decode cX4_isAsSeen 1 = .ok (.istore_n 1, 1) := by decide +kernel
theorem dX4_isAsSeen_2 : decode cX4_isAsSeen 2 = .ok (.iload_n 1, 1) := by decide +kernel
theorem dX4_isAsSeen_3 : decode cX4_isAsSeen 3 = .ok (.aload_n 0, 1) := by decide +kernel
theorem dX4_isAsSeen_4 : decode cX4_isAsSeen 4 = .ok (.getfield 80, 3) := by decide +kernel
theorem dX4_isAsSeen_7 : decode cX4_isAsSeen 7 = .ok (.if_icmp .ge 33, 3) := by decide +kernel
theorem dX4_isAsSeen_10 : decode cX4_isAsSeen 10 = .ok (.aload_n 0, 1) := by decide +kernel
theorem dX4_isAsSeen_11 : decode cX4_isAsSeen 11 = .ok (.getfield 31, 3) := by decide +kernel
theorem dX4_isAsSeen_14 : decode cX4_isAsSeen 14 = .ok (.aload_n 0, 1) := by decide +kernel
theorem dX4_isAsSeen_15 : decode cX4_isAsSeen 15 = .ok (.getfield 48, 3) := by decide +kernel
theorem dX4_isAsSeen_18 : decode cX4_isAsSeen 18 = .ok (.iload_n 1, 1) := by decide +kernel
theorem dX4_isAsSeen_19 : decode cX4_isAsSeen 19 = .ok (.iaload, 1) := by decide +kernel
theorem dX4_isAsSeen_20 : decode cX4_isAsSeen 20 = .ok (.invokevirtual 212, 3) := by decide +kernel
theorem dX4_isAsSeen_23 : decode cX4_isAsSeen 23 = .ok (.aload_n 0, 1) := by decide +kernel
theorem dX4_isAsSeen_24 : decode cX4_isAsSeen 24 = .ok (.getfield 52, 3) := by decide +kernel
theorem dX4_isAsSeen_27 : decode cX4_isAsSeen 27 = .ok (.iload_n 1, 1) := by decide +kernel
theorem dX4_isAsSeen_28 : decode cX4_isAsSeen 28 = .ok (.iaload, 1) := by decide +kernel
theorem dX4_isAsSeen_29 : decode cX4_isAsSeen 29 = .ok (.if_icmp .eq 5, 3) := by decide +kernel
theorem dX4_isAsSeen_32 : decode cX4_isAsSeen 32 = .ok (.iconst 0, 1) := by decide +kernel
theorem dX4_isAsSeen_33 : decode cX4_isAsSeen 33 = .ok (.ireturn, 1) := by decide +kernel
theorem dX4_isAsSeen_34 : decode cX4_isAsSeen 34 = .ok (.iinc 1 1, 3) := by decide +kernel
theorem dX4_isAsSeen_37 : decode cX4_isAsSeen 37 = .ok (.goto (-35), 3) := by decide +kernel
theorem dX4_isAsSeen_40 : decode cX4_isAsSeen 40 = .ok (.iconst 1, 1) := by decide +kernel
theorem dX4_isAsSeen_41 : decode cX4_isAsSeen 41 = .ok (.ireturn, 1) := by decide +kernel
theorem dX4_two_0 : decode cX4_two 0 = .ok (.iload_n 1, 1) := by decide +kernel
theorem dX4_two_1 : decode cX4_two 1 = .ok (.iconst 0, 1) := by decide +kernel
theorem dX4_two_2 : decode cX4_two 2 = .ok (.aload_n 0, 1) := by decide +kernel
theorem dX4_two_3 : decode cX4_two 3 = .ok (.getfield 19, 3) := by decide +kernel
theorem dX4_two_6 : decode cX4_two 6 = .ok (.getfield 189, 3) := by decide +kernel
theorem dX4_two_9 : decode cX4_two 9 = .ok (.invokestatic 55, 3) := by decide +kernel
theorem dX4_two_12 : decode cX4_two 12 = .ok (.ifCond .ne 5, 3) := by decide +kernel
theorem dX4_two_15 : decode cX4_two 15 = .ok (.iconst (-1), 1) := by decide +kernel
theorem dX4_two_16 : decode cX4_two 16 = .ok (.ireturn, 1) := by decide +kernel
theorem dX4_two_17 : decode cX4_two 17 = .ok (.iconst 0, 1) := by decide +kernel
theorem dX4_two_18 : decode cX4_two 18 = .ok (.istore_n 2, 1) := by decide +kernel
theorem dX4_two_19 : decode cX4_two 19 = .ok (.iload_n 1, 1) := by decide +kernel
theorem dX4_two_20 : decode cX4_two 20 = .ok (.istore_n 3, 1) := by decide +kernel
theorem dX4_two_21 : decode cX4_two 21 = .ok (.iload_n 3, 1) := by decide +kernel
theorem dX4_two_22 : decode cX4_two 22 = .ok (.aload_n 0, 1) := by decide +kernel
theorem dX4_two_23 : decode cX4_two 23 = .ok (.getfield 19, 3) := by decide +kernel
theorem dX4_two_26 : decode cX4_two 26 = .ok (.getfield 189, 3) := by decide +kernel
theorem dX4_two_29 : decode cX4_two 29 = .ok (.if_icmp .ge 53, 3) := by decide +kernel
theorem dX4_two_32 : decode cX4_two 32 = .ok (.aload_n 0, 1) := by decide +kernel
theorem dX4_two_33 : decode cX4_two 33 = .ok (.getfield 19, 3) := by decide +kernel
theorem dX4_two_36 : decode cX4_two 36 = .ok (.iload_n 3, 1) := by decide +kernel
theorem dX4_two_37 : decode cX4_two 37 = .ok (.iconst 2, 1) := by decide +kernel
theorem dX4_two_38 : decode cX4_two 38 = .ok (.invokevirtual 96, 3) := by decide +kernel
theorem dX4_two_41 : decode cX4_two 41 = .ok (.istore 4, 2) := by decide +kernel
theorem dX4_two_43 : decode cX4_two 43 = .ok (.aload_n 0, 1) := by decide +kernel
theorem dX4_two_44 : decode cX4_two 44 = .ok (.getfield 19, 3) := by decide +kernel
theorem dX4_two_47 : decode cX4_two 47 = .ok (.iload_n 3, 1) := by decide +kernel
theorem dX4_two_48 : decode cX4_two 48 = .ok (.invokevirtual 156, 3) := by decide +kernel
theorem dX4_two_51 : decode cX4_two 51 = .ok (.ifCond .eq 25, 3) := by decide +kernel
theorem dX4_two_54 : decode cX4_two 54 = .ok (.iload 4, 2) := by decide +kernel
theorem dX4_two_56 : decode cX4_two 56 = .ok (.iload_n 1, 1) := by decide +kernel
theorem dX4_two_57 : decode cX4_two 57 = .ok (.if_icmp .lt 13, 3) := by decide +kernel
theorem dX4_two_60 : decode cX4_two 60 = .ok (.iload_n 2, 1) := by decide +kernel
theorem dX4_two_61 : decode cX4_two 61 = .ok (.iload 4, 2) := by decide +kernel
theorem dX4_two_63 : decode cX4_two 63 = .ok (.invokestatic 103, 3) := by decide +kernel
theorem dX4_two_66 : decode cX4_two 66 = .ok (.iconst 1, 1) := by decide +kernel
theorem dX4_two_67 : decode cX4_two 67 = .ok (.if_icmp .ne 9, 3) := by decide +kernel
theorem dX4_two_70 : decode cX4_two 70 = .ok (.iload_n 2, 1) := by decide +kernel
theorem dX4_two_71 : decode cX4_two 71 = .ok (.iconst 1, 1) := by decide +kernel
theorem dX4_two_72 : decode cX4_two 72 = .ok (.iload_n 3, 1) := by decide +kernel
theorem dX4_two_73 : decode cX4_two 73 = .ok (.ishl, 1) := by decide +kernel
theorem dX4_two_74 : decode cX4_two 74 = .ok (.ior, 1) := by decide +kernel
theorem dX4_two_75 : decode cX4_two 75 = .ok (.istore_n 2, 1) := by decide +kernel
theorem dX4_two_76 : decode cX4_two 76 = .ok (.iinc 3 1, 3) := by decide +kernel
theorem dX4_two_79 : decode cX4_two 79 = .ok (.goto (-58), 3) := by decide +kernel
theorem dX4_two_82 : decode cX4_two 82 = .ok (.iload_n 2, 1) := by decide +kernel
theorem dX4_two_83 : decode cX4_two 83 = .ok (.invokestatic 176, 3) := by decide +kernel
theorem dX4_two_86 : decode cX4_two 86 = .ok (.ireturn, 1) := by decide +kernel
theorem dX4_mark_0 : decode cX4_mark 0 = .ok (.aload_n 0, 1) := by decide +kernel
theorem dX4_mark_1 : decode cX4_mark 1 = .ok (.getfield 19, 3) := by decide +kernel
theorem dX4_mark_4 : decode cX4_mark 4 = .ok (.iload_n 2, 1) := by decide +kernel
theorem dX4_mark_5 : decode cX4_mark 5 = .ok (.invokevirtual 93, 3) := by decide +kernel
theorem dX4_mark_8 : decode cX4_mark 8 = .ok (.ifCond .ne 6, 3) := by decide +kernel
theorem dX4_mark_11 : decode cX4_mark 11 = .ok (.ldc 215, 2) := by decide +kernel
theorem dX4_mark_13 : decode cX4_mark 13 = .ok (.ireturn, 1) := by decide +kernel
theorem dX4_mark_14 : decode cX4_mark 14 = .ok (.iload_n 1, 1) := by decide +kernel
theorem dX4_mark_15 : decode cX4_mark 15 = .ok (.tableswitch 73 0 5 #[37, 43, 49, 55, 61, 67], 37) := by decide +kernel
theorem dX4_mark_52 : decode cX4_mark 52 = .ok (.aload_n 0, 1) := by decide +kernel
theorem dX4_mark_53 : decode cX4_mark 53 = .ok (.iload_n 2, 1) := by decide +kernel
theorem dX4_mark_54 : decode cX4_mark 54 = .ok (.invokevirtual 216, 3) := by decide +kernel
theorem dX4_mark_57 : decode cX4_mark 57 = .ok (.ireturn, 1) := by decide +kernel
theorem dX4_mark_58 : decode cX4_mark 58 = .ok (.aload_n 0, 1) := by decide +kernel
theorem dX4_mark_59 : decode cX4_mark 59 = .ok (.iload_n 2, 1) := by decide +kernel
theorem dX4_mark_60 : decode cX4_mark 60 = .ok (.invokevirtual 219, 3) := by decide +kernel
theorem dX4_mark_63 : decode cX4_mark 63 = .ok (.ireturn, 1) := by decide +kernel
theorem dX4_mark_64 : decode cX4_mark 64 = .ok (.aload_n 0, 1) := by decide +kernel
theorem dX4_mark_65 : decode cX4_mark 65 = .ok (.iload_n 2, 1) := by decide +kernel
theorem dX4_mark_66 : decode cX4_mark 66 = .ok (.invokevirtual 222, 3) := by decide +kernel
theorem dX4_mark_69 : decode cX4_mark 69 = .ok (.ireturn, 1) := by decide +kernel
theorem dX4_mark_70 : decode cX4_mark 70 = .ok (.aload_n 0, 1) := by decide +kernel
theorem dX4_mark_71 : decode cX4_mark 71 = .ok (.iload_n 2, 1) := by decide +kernel
theorem dX4_mark_72 : decode cX4_mark 72 = .ok (.invokevirtual 225, 3) := by decide +kernel
theorem dX4_mark_75 : decode cX4_mark 75 = .ok (.ireturn, 1) := by decide +kernel
theorem dX4_mark_76 : decode cX4_mark 76 = .ok (.aload_n 0, 1) := by decide +kernel
theorem dX4_mark_77 : decode cX4_mark 77 = .ok (.iload_n 2, 1) := by decide +kernel
theorem dX4_mark_78 : decode cX4_mark 78 = .ok (.invokevirtual 228, 3) := by decide +kernel
theorem dX4_mark_81 : decode cX4_mark 81 = .ok (.ireturn, 1) := by decide +kernel
theorem dX4_mark_82 : decode cX4_mark 82 = .ok (.aload_n 0, 1) := by decide +kernel
theorem dX4_mark_83 : decode cX4_mark 83 = .ok (.iload_n 2, 1) := by decide +kernel
theorem dX4_mark_84 : decode cX4_mark 84 = .ok (.invokevirtual 231, 3) := by decide +kernel
theorem dX4_mark_87 : decode cX4_mark 87 = .ok (.ireturn, 1) := by decide +kernel
theorem dX4_mark_88 : decode cX4_mark 88 = .ok (.ldc 215, 2) := by decide +kernel
theorem dX4_mark_90 : decode cX4_mark 90 = .ok (.ireturn, 1) := by decide +kernel
theorem dX4_asPiece_0 : decode cX4_asPiece 0 = .ok (.aload_n 0, 1) := by decide +kernel
theorem dX4_asPiece_1 : decode cX4_asPiece 1 = .ok (.dup, 1) := by decide +kernel
theorem dX4_asPiece_2 : decode cX4_asPiece 2 = .ok (.getfield 234, 3) := by decide +kernel
theorem dX4_asPiece_5 : decode cX4_asPiece 5 = .ok (.lconst 1, 1) := by decide +kernel
theorem dX4_asPiece_6 : decode cX4_asPiece 6 = .ok (.ladd, 1) := by decide +kernel
theorem dX4_asPiece_7 : decode cX4_asPiece 7 = .ok (.putfield 234, 3) := by decide +kernel
theorem dX4_asPiece_10 : decode cX4_asPiece 10 = .ok (.aload_n 0, 1) := by decide +kernel
theorem dX4_asPiece_11 : decode cX4_asPiece 11 = .ok (.getfield 19, 3) := by decide +kernel
theorem dX4_asPiece_14 : decode cX4_asPiece 14 = .ok (.iload_n 1, 1) := by decide +kernel
theorem dX4_asPiece_15 : decode cX4_asPiece 15 = .ok (.iconst 0, 1) := by decide +kernel
theorem dX4_asPiece_16 : decode cX4_asPiece 16 = .ok (.invokevirtual 96, 3) := by decide +kernel
theorem dX4_asPiece_19 : decode cX4_asPiece 19 = .ok (.ireturn, 1) := by decide +kernel
theorem dX4_asShort_0 : decode cX4_asShort 0 = .ok (.aload_n 0, 1) := by decide +kernel
theorem dX4_asShort_1 : decode cX4_asShort 1 = .ok (.dup, 1) := by decide +kernel
theorem dX4_asShort_2 : decode cX4_asShort 2 = .ok (.getfield 234, 3) := by decide +kernel
theorem dX4_asShort_5 : decode cX4_asShort 5 = .ok (.ldc2_w 238, 3) := by decide +kernel
theorem dX4_asShort_8 : decode cX4_asShort 8 = .ok (.ladd, 1) := by decide +kernel
theorem dX4_asShort_9 : decode cX4_asShort 9 = .ok (.putfield 234, 3) := by decide +kernel
theorem dX4_asShort_12 : decode cX4_asShort 12 = .ok (.aload_n 0, 1) := by decide +kernel
theorem dX4_asShort_13 : decode cX4_asShort 13 = .ok (.iload_n 1, 1) := by decide +kernel
theorem dX4_asShort_14 : decode cX4_asShort 14 = .ok (.invokevirtual 216, 3) := by decide +kernel
theorem dX4_asShort_17 : decode cX4_asShort 17 = .ok (.aload_n 0, 1) := by decide +kernel
theorem dX4_asShort_18 : decode cX4_asShort 18 = .ok (.getfield 19, 3) := by decide +kernel
theorem dX4_asShort_21 : decode cX4_asShort 21 = .ok (.iload_n 1, 1) := by decide +kernel
theorem dX4_asShort_22 : decode cX4_asShort 22 = .ok (.iconst 1, 1) := by decide +kernel
theorem dX4_asShort_23 : decode cX4_asShort 23 = .ok (.invokevirtual 96, 3) := by decide +kernel
theorem dX4_asShort_26 : decode cX4_asShort 26 = .ok (.iadd, 1) := by decide +kernel
theorem dX4_asShort_27 : decode cX4_asShort 27 = .ok (.ireturn, 1) := by decide +kernel
theorem dX4_asLong_0 : decode cX4_asLong 0 = .ok (.aload_n 0, 1) := by decide +kernel
theorem dX4_asLong_1 : decode cX4_asLong 1 = .ok (.dup, 1) := by decide +kernel
theorem dX4_asLong_2 : decode cX4_asLong 2 = .ok (.getfield 234, 3) := by decide +kernel
theorem dX4_asLong_5 : decode cX4_asLong 5 = .ok (.ldc2_w 240, 3) := by decide +kernel
theorem dX4_asLong_8 : decode cX4_asLong 8 = .ok (.ladd, 1) := by decide +kernel
theorem dX4_asLong_9 : decode cX4_asLong 9 = .ok (.putfield 234, 3) := by decide +kernel
theorem dX4_asLong_12 : decode cX4_asLong 12 = .ok (.aload_n 0, 1) := by decide +kernel
theorem dX4_asLong_13 : decode cX4_asLong 13 = .ok (.iload_n 1, 1) := by decide +kernel
theorem dX4_asLong_14 : decode cX4_asLong 14 = .ok (.invokevirtual 216, 3) := by decide +kernel
theorem dX4_asLong_17 : decode cX4_asLong 17 = .ok (.aload_n 0, 1) := by decide +kernel
theorem dX4_asLong_18 : decode cX4_asLong 18 = .ok (.getfield 19, 3) := by decide +kernel
theorem dX4_asLong_21 : decode cX4_asLong 21 = .ok (.iload_n 1, 1) := by decide +kernel
theorem dX4_asLong_22 : decode cX4_asLong 22 = .ok (.iconst 4, 1) := by decide +kernel
theorem dX4_asLong_23 : decode cX4_asLong 23 = .ok (.invokevirtual 96, 3) := by decide +kernel
theorem dX4_asLong_26 : decode cX4_asLong 26 = .ok (.isub, 1) := by decide +kernel
theorem dX4_asLong_27 : decode cX4_asLong 27 = .ok (.ireturn, 1) := by decide +kernel
theorem dX4_asSign_0 : decode cX4_asSign 0 = .ok (.aload_n 0, 1) := by decide +kernel
theorem dX4_asSign_1 : decode cX4_asSign 1 = .ok (.dup, 1) := by decide +kernel
theorem dX4_asSign_2 : decode cX4_asSign 2 = .ok (.getfield 234, 3) := by decide +kernel
theorem dX4_asSign_5 : decode cX4_asSign 5 = .ok (.ldc2_w 242, 3) := by decide +kernel
theorem dX4_asSign_8 : decode cX4_asSign 8 = .ok (.ladd, 1) := by decide +kernel
theorem dX4_asSign_9 : decode cX4_asSign 9 = .ok (.putfield 234, 3) := by decide +kernel
theorem dX4_asSign_12 : decode cX4_asSign 12 = .ok (.aload_n 0, 1) := by decide +kernel
theorem dX4_asSign_13 : decode cX4_asSign 13 = .ok (.iload_n 1, 1) := by decide +kernel
theorem dX4_asSign_14 : decode cX4_asSign 14 = .ok (.invokevirtual 219, 3) := by decide +kernel
theorem dX4_asSign_17 : decode cX4_asSign 17 = .ok (.iconst 2, 1) := by decide +kernel
theorem dX4_asSign_18 : decode cX4_asSign 18 = .ok (.imul, 1) := by decide +kernel
theorem dX4_asSign_19 : decode cX4_asSign 19 = .ok (.ireturn, 1) := by decide +kernel
theorem dX4_asMargin_0 : decode cX4_asMargin 0 = .ok (.aload_n 0, 1) := by decide +kernel
theorem dX4_asMargin_1 : decode cX4_asMargin 1 = .ok (.dup, 1) := by decide +kernel
theorem dX4_asMargin_2 : decode cX4_asMargin 2 = .ok (.getfield 234, 3) := by decide +kernel
theorem dX4_asMargin_5 : decode cX4_asMargin 5 = .ok (.ldc2_w 244, 3) := by decide +kernel
theorem dX4_asMargin_8 : decode cX4_asMargin 8 = .ok (.ladd, 1) := by decide +kernel
theorem dX4_asMargin_9 : decode cX4_asMargin 9 = .ok (.putfield 234, 3) := by decide +kernel
theorem dX4_asMargin_12 : decode cX4_asMargin 12 = .ok (.aload_n 0, 1) := by decide +kernel
theorem dX4_asMargin_13 : decode cX4_asMargin 13 = .ok (.iload_n 1, 1) := by decide +kernel
theorem dX4_asMargin_14 : decode cX4_asMargin 14 = .ok (.invokevirtual 222, 3) := by decide +kernel
theorem dX4_asMargin_17 : decode cX4_asMargin 17 = .ok (.aload_n 0, 1) := by decide +kernel
theorem dX4_asMargin_18 : decode cX4_asMargin 18 = .ok (.getfield 38, 3) := by decide +kernel
theorem dX4_asMargin_21 : decode cX4_asMargin 21 = .ok (.getfield 135, 3) := by decide +kernel
theorem dX4_asMargin_24 : decode cX4_asMargin 24 = .ok (.iadd, 1) := by decide +kernel
theorem dX4_asMargin_25 : decode cX4_asMargin 25 = .ok (.ireturn, 1) := by decide +kernel
theorem dX4_asKiss_0 : decode cX4_asKiss 0 = .ok (.aload_n 0, 1) := by decide +kernel
theorem dX4_asKiss_1 : decode cX4_asKiss 1 = .ok (.dup, 1) := by decide +kernel
theorem dX4_asKiss_2 : decode cX4_asKiss 2 = .ok (.getfield 234, 3) := by decide +kernel
theorem dX4_asKiss_5 : decode cX4_asKiss 5 = .ok (.ldc2_w 246, 3) := by decide +kernel
theorem dX4_asKiss_8 : decode cX4_asKiss 8 = .ok (.ladd, 1) := by decide +kernel
theorem dX4_asKiss_9 : decode cX4_asKiss 9 = .ok (.putfield 234, 3) := by decide +kernel
theorem dX4_asKiss_12 : decode cX4_asKiss 12 = .ok (.aload_n 0, 1) := by decide +kernel
theorem dX4_asKiss_13 : decode cX4_asKiss 13 = .ok (.iload_n 1, 1) := by decide +kernel
theorem dX4_asKiss_14 : decode cX4_asKiss 14 = .ok (.invokevirtual 216, 3) := by decide +kernel
theorem dX4_asKiss_17 : decode cX4_asKiss 17 = .ok (.aload_n 0, 1) := by decide +kernel
theorem dX4_asKiss_18 : decode cX4_asKiss 18 = .ok (.getfield 38, 3) := by decide +kernel
theorem dX4_asKiss_21 : decode cX4_asKiss 21 = .ok (.getfield 126, 3) := by decide +kernel
theorem dX4_asKiss_24 : decode cX4_asKiss 24 = .ok (.iadd, 1) := by decide +kernel
theorem dX4_asKiss_25 : decode cX4_asKiss 25 = .ok (.ireturn, 1) := by decide +kernel
theorem dX4_keep_0 : decode cX4_keep 0 = .ok (.iload_n 1, 1) := by decide +kernel
theorem dX4_keep_1 : decode cX4_keep 1 = .ok (.iconst 0, 1) := by decide +kernel
theorem dX4_keep_2 : decode cX4_keep 2 = .ok (.iconst 1, 1) := by decide +kernel
theorem dX4_keep_3 : decode cX4_keep 3 = .ok (.invokestatic 55, 3) := by decide +kernel
theorem dX4_keep_6 : decode cX4_keep 6 = .ok (.ifCond .ne 5, 3) := by decide +kernel
theorem dX4_keep_9 : decode cX4_keep 9 = .ok (.iconst (-1), 1) := by decide +kernel
theorem dX4_keep_10 : decode cX4_keep 10 = .ok (.ireturn, 1) := by decide +kernel
theorem dX4_keep_11 : decode cX4_keep 11 = .ok (.aload_n 0, 1) := by decide +kernel
theorem dX4_keep_12 : decode cX4_keep 12 = .ok (.iload_n 1, 1) := by decide +kernel
theorem dX4_keep_13 : decode cX4_keep 13 = .ok (.invokevirtual 248, 3) := by decide +kernel
theorem dX4_keep_16 : decode cX4_keep 16 = .ok (.aload_n 0, 1) := by decide +kernel
theorem dX4_keep_17 : decode cX4_keep 17 = .ok (.getfield 38, 3) := by decide +kernel
theorem dX4_keep_20 : decode cX4_keep 20 = .ok (.invokevirtual 252, 3) := by decide +kernel
theorem dX4_keep_23 : decode cX4_keep 23 = .ok (.aload_n 0, 1) := by decide +kernel
theorem dX4_keep_24 : decode cX4_keep 24 = .ok (.dup, 1) := by decide +kernel
theorem dX4_keep_25 : decode cX4_keep 25 = .ok (.getfield 77, 3) := by decide +kernel
theorem dX4_keep_28 : decode cX4_keep 28 = .ok (.iconst 1, 1) := by decide +kernel
theorem dX4_keep_29 : decode cX4_keep 29 = .ok (.iload_n 1, 1) := by decide +kernel
theorem dX4_keep_30 : decode cX4_keep 30 = .ok (.ishl, 1) := by decide +kernel
theorem dX4_keep_31 : decode cX4_keep 31 = .ok (.ior, 1) := by decide +kernel
theorem dX4_keep_32 : decode cX4_keep 32 = .ok (.putfield 77, 3) := by decide +kernel
theorem dX4_keep_35 : decode cX4_keep 35 = .ok (.aload_n 0, 1) := by decide +kernel
theorem dX4_keep_36 : decode cX4_keep 36 = .ok (.getfield 38, 3) := by decide +kernel
theorem dX4_keep_39 : decode cX4_keep 39 = .ok (.getfield 110, 3) := by decide +kernel
theorem dX4_keep_42 : decode cX4_keep 42 = .ok (.ireturn, 1) := by decide +kernel
theorem dX4_back_0 : decode cX4_back 0 = .ok (.iload_n 1, 1) := by decide +kernel
theorem dX4_back_1 : decode cX4_back 1 = .ok (.iconst 0, 1) := by decide +kernel
theorem dX4_back_2 : decode cX4_back 2 = .ok (.iconst 1, 1) := by decide +kernel
theorem dX4_back_3 : decode cX4_back 3 = .ok (.invokestatic 55, 3) := by decide +kernel
theorem dX4_back_6 : decode cX4_back 6 = .ok (.ifCond .ne 5, 3) := by decide +kernel
theorem dX4_back_9 : decode cX4_back 9 = .ok (.iconst (-1), 1) := by decide +kernel
theorem dX4_back_10 : decode cX4_back 10 = .ok (.ireturn, 1) := by decide +kernel
theorem dX4_back_11 : decode cX4_back 11 = .ok (.aload_n 0, 1) := by decide +kernel
theorem dX4_back_12 : decode cX4_back 12 = .ok (.getfield 77, 3) := by decide +kernel
theorem dX4_back_15 : decode cX4_back 15 = .ok (.iload_n 1, 1) := by decide +kernel
theorem dX4_back_16 : decode cX4_back 16 = .ok (.invokestatic 103, 3) := by decide +kernel
theorem dX4_back_19 : decode cX4_back 19 = .ok (.ifCond .ne 6, 3) := by decide +kernel
theorem dX4_back_22 : decode cX4_back 22 = .ok (.bipush (-2), 2) := by decide +kernel
theorem dX4_back_24 : decode cX4_back 24 = .ok (.ireturn, 1) := by decide +kernel
theorem dX4_back_25 : decode cX4_back 25 = .ok (.aload_n 0, 1) := by decide +kernel
theorem dX4_back_26 : decode cX4_back 26 = .ok (.getfield 38, 3) := by decide +kernel
theorem dX4_back_29 : decode cX4_back 29 = .ok (.aload_n 0, 1) := by decide +kernel
theorem dX4_back_30 : decode cX4_back 30 = .ok (.iload_n 1, 1) := by decide +kernel
theorem dX4_back_31 : decode cX4_back 31 = .ok (.invokevirtual 248, 3) := by decide +kernel
theorem dX4_back_34 : decode cX4_back 34 = .ok (.invokevirtual 252, 3) := by decide +kernel
theorem dX4_back_37 : decode cX4_back 37 = .ok (.aload_n 0, 1) := by decide +kernel
theorem dX4_back_38 : decode cX4_back 38 = .ok (.getfield 38, 3) := by decide +kernel
theorem dX4_back_41 : decode cX4_back 41 = .ok (.getfield 110, 3) := by decide +kernel
theorem dX4_back_44 : decode cX4_back 44 = .ok (.ireturn, 1) := by decide +kernel
theorem dX4_imageOf_0 : decode cX4_imageOf 0 = .ok (.iload_n 1, 1) := by decide +kernel
theorem dX4_imageOf_1 : decode cX4_imageOf 1 = .ok (.ifCond .ne 10, 3) := by decide +kernel
theorem dX4_imageOf_4 : decode cX4_imageOf 4 = .ok (.aload_n 0, 1) := by decide +kernel
theorem dX4_imageOf_5 : decode cX4_imageOf 5 = .ok (.getfield 42, 3) := by decide +kernel
theorem dX4_imageOf_8 : decode cX4_imageOf 8 = .ok (.goto 7, 3) := by decide +kernel
theorem dX4_imageOf_11 : decode cX4_imageOf 11 = .ok (.aload_n 0, 1) := by decide +kernel
theorem dX4_imageOf_12 : decode cX4_imageOf 12 = .ok (.getfield 45, 3) := by decide +kernel
theorem dX4_imageOf_15 : decode cX4_imageOf 15 = .ok (.areturn, 1) := by decide +kernel
theorem dX4_count_0 : decode cX4_count 0 = .ok (.iload_n 1, 1) := by decide +kernel
theorem dX4_count_1 : decode cX4_count 1 = .ok (.tableswitch 84 0 5 #[39, 47, 55, 63, 68, 76], 39) := by decide +kernel
theorem dX4_count_40 : decode cX4_count 40 = .ok (.aload_n 0, 1) := by decide +kernel
theorem dX4_count_41 : decode cX4_count 41 = .ok (.getfield 19, 3) := by decide +kernel
theorem dX4_count_44 : decode cX4_count 44 = .ok (.getfield 255, 3) := by decide +kernel
theorem dX4_count_47 : decode cX4_count 47 = .ok (.ireturn, 1) := by decide +kernel
theorem dX4_count_48 : decode cX4_count 48 = .ok (.aload_n 0, 1) := by decide +kernel
theorem dX4_count_49 : decode cX4_count 49 = .ok (.getfield 19, 3) := by decide +kernel
theorem dX4_count_52 : decode cX4_count 52 = .ok (.getfield 189, 3) := by decide +kernel
theorem dX4_count_55 : decode cX4_count 55 = .ok (.ireturn, 1) := by decide +kernel
theorem dX4_count_56 : decode cX4_count 56 = .ok (.aload_n 0, 1) := by decide +kernel
theorem dX4_count_57 : decode cX4_count 57 = .ok (.getfield 19, 3) := by decide +kernel
theorem dX4_count_60 : decode cX4_count 60 = .ok (.getfield 129, 3) := by decide +kernel
theorem dX4_count_63 : decode cX4_count 63 = .ok (.ireturn, 1) := by decide +kernel
theorem dX4_count_64 : decode cX4_count 64 = .ok (.aload_n 0, 1) := by decide +kernel
theorem dX4_count_65 : decode cX4_count 65 = .ok (.getfield 80, 3) := by decide +kernel
theorem dX4_count_68 : decode cX4_count 68 = .ok (.ireturn, 1) := by decide +kernel
theorem dX4_count_69 : decode cX4_count 69 = .ok (.aload_n 0, 1) := by decide +kernel
theorem dX4_count_70 : decode cX4_count 70 = .ok (.getfield 38, 3) := by decide +kernel
theorem dX4_count_73 : decode cX4_count 73 = .ok (.getfield 141, 3) := by decide +kernel
theorem dX4_count_76 : decode cX4_count 76 = .ok (.ireturn, 1) := by decide +kernel
theorem dX4_count_77 : decode cX4_count 77 = .ok (.aload_n 0, 1) := by decide +kernel
theorem dX4_count_78 : decode cX4_count 78 = .ok (.getfield 10, 3) := by decide +kernel
theorem dX4_count_81 : decode cX4_count 81 = .ok (.getfield 63, 3) := by decide +kernel
theorem dX4_count_84 : decode cX4_count 84 = .ok (.ireturn, 1) := by decide +kernel
theorem dX4_count_85 : decode cX4_count 85 = .ok (.iconst (-1), 1) := by decide +kernel
theorem dX4_count_86 : decode cX4_count 86 = .ok (.ireturn, 1) := by decide +kernel
theorem dX4_trace_0 : decode cX4_trace 0 = .ok (.aload_n 0, 1) := by decide +kernel
theorem dX4_trace_1 : decode cX4_trace 1 = .ok (.getfield 234, 3) := by decide +kernel
theorem dX4_trace_4 : decode cX4_trace 4 = .ok (.lreturn, 1) := by decide +kernel
theorem dX4_isSize_0 : decode cX4_isSize 0 = .ok (.iload_n 1, 1) := by decide +kernel
theorem dX4_isSize_1 : decode cX4_isSize 1 = .ok (.aload_n 0, 1) := by decide +kernel
theorem dX4_isSize_2 : decode cX4_isSize 2 = .ok (.getfield 19, 3) := by decide +kernel
theorem dX4_isSize_5 : decode cX4_isSize 5 = .ok (.getfield 129, 3) := by decide +kernel
theorem dX4_isSize_8 : decode cX4_isSize 8 = .ok (.iconst 5, 1) := by decide +kernel
theorem dX4_isSize_9 : decode cX4_isSize 9 = .ok (.invokestatic 55, 3) := by decide +kernel
theorem dX4_isSize_12 : decode cX4_isSize 12 = .ok (.ireturn, 1) := by decide +kernel
theorem dX4_within_0 : decode cX4_within 0 = .ok (.iload_n 0, 1) := by decide +kernel
theorem dX4_within_1 : decode cX4_within 1 = .ok (.iload_n 1, 1) := by decide +kernel
theorem dX4_within_2 : decode cX4_within 2 = .ok (.if_icmp .lt 12, 3) := by decide +kernel
theorem dX4_within_5 : decode cX4_within 5 = .ok (.iload_n 0, 1) := by decide +kernel
theorem dX4_within_6 : decode cX4_within 6 = .ok (.iload_n 2, 1) := by decide +kernel
theorem dX4_within_7 : decode cX4_within 7 = .ok (.if_icmp .gt 7, 3) := by decide +kernel
theorem dX4_within_10 : decode cX4_within 10 = .ok (.iconst 1, 1) := by decide +kernel
theorem dX4_within_11 : decode cX4_within 11 = .ok (.goto 4, 3) := by decide +kernel
theorem dX4_within_14 : decode cX4_within 14 = .ok (.iconst 0, 1) := by decide +kernel
theorem dX4_within_15 : decode cX4_within 15 = .ok (.ireturn, 1) := by decide +kernel
theorem dX4_bit_0 : decode cX4_bit 0 = .ok (.iload_n 0, 1) := by decide +kernel
theorem dX4_bit_1 : decode cX4_bit 1 = .ok (.iload_n 1, 1) := by decide +kernel
theorem dX4_bit_2 : decode cX4_bit 2 = .ok (.ishr, 1) := by decide +kernel
theorem dX4_bit_3 : decode cX4_bit 3 = .ok (.iconst 1, 1) := by decide +kernel
theorem dX4_bit_4 : decode cX4_bit 4 = .ok (.iand, 1) := by decide +kernel
theorem dX4_bit_5 : decode cX4_bit 5 = .ok (.ireturn, 1) := by decide +kernel
theorem dJ6_bitCount_0f7a4_0 : decode cJ6_bitCount_0f7a4 0 = .ok (.iload_n 0, 1) := by decide +kernel
theorem dJ6_bitCount_0f7a4_1 : decode cJ6_bitCount_0f7a4 1 = .ok (.iload_n 0, 1) := by decide +kernel
theorem dJ6_bitCount_0f7a4_2 : decode cJ6_bitCount_0f7a4 2 = .ok (.iconst 1, 1) := by decide +kernel
theorem dJ6_bitCount_0f7a4_3 : decode cJ6_bitCount_0f7a4 3 = .ok (.iushr, 1) := by decide +kernel
theorem dJ6_bitCount_0f7a4_4 : decode cJ6_bitCount_0f7a4 4 = .ok (.ldc_w 265, 3) := by decide +kernel
theorem dJ6_bitCount_0f7a4_7 : decode cJ6_bitCount_0f7a4 7 = .ok (.iand, 1) := by decide +kernel
theorem dJ6_bitCount_0f7a4_8 : decode cJ6_bitCount_0f7a4 8 = .ok (.isub, 1) := by decide +kernel
theorem dJ6_bitCount_0f7a4_9 : decode cJ6_bitCount_0f7a4 9 = .ok (.istore_n 0, 1) := by decide +kernel
theorem dJ6_bitCount_0f7a4_10 : decode cJ6_bitCount_0f7a4 10 = .ok (.iload_n 0, 1) := by decide +kernel
theorem dJ6_bitCount_0f7a4_11 : decode cJ6_bitCount_0f7a4 11 = .ok (.ldc_w 266, 3) := by decide +kernel
theorem dJ6_bitCount_0f7a4_14 : decode cJ6_bitCount_0f7a4 14 = .ok (.iand, 1) := by decide +kernel
theorem dJ6_bitCount_0f7a4_15 : decode cJ6_bitCount_0f7a4 15 = .ok (.iload_n 0, 1) := by decide +kernel
theorem dJ6_bitCount_0f7a4_16 : decode cJ6_bitCount_0f7a4 16 = .ok (.iconst 2, 1) := by decide +kernel
theorem dJ6_bitCount_0f7a4_17 : decode cJ6_bitCount_0f7a4 17 = .ok (.iushr, 1) := by decide +kernel
theorem dJ6_bitCount_0f7a4_18 : decode cJ6_bitCount_0f7a4 18 = .ok (.ldc_w 266, 3) := by decide +kernel
theorem dJ6_bitCount_0f7a4_21 : decode cJ6_bitCount_0f7a4 21 = .ok (.iand, 1) := by decide +kernel
theorem dJ6_bitCount_0f7a4_22 : decode cJ6_bitCount_0f7a4 22 = .ok (.iadd, 1) := by decide +kernel
theorem dJ6_bitCount_0f7a4_23 : decode cJ6_bitCount_0f7a4 23 = .ok (.istore_n 0, 1) := by decide +kernel
theorem dJ6_bitCount_0f7a4_24 : decode cJ6_bitCount_0f7a4 24 = .ok (.iload_n 0, 1) := by decide +kernel
theorem dJ6_bitCount_0f7a4_25 : decode cJ6_bitCount_0f7a4 25 = .ok (.iload_n 0, 1) := by decide +kernel
theorem dJ6_bitCount_0f7a4_26 : decode cJ6_bitCount_0f7a4 26 = .ok (.iconst 4, 1) := by decide +kernel
theorem dJ6_bitCount_0f7a4_27 : decode cJ6_bitCount_0f7a4 27 = .ok (.iushr, 1) := by decide +kernel
theorem dJ6_bitCount_0f7a4_28 : decode cJ6_bitCount_0f7a4 28 = .ok (.iadd, 1) := by decide +kernel
theorem dJ6_bitCount_0f7a4_29 : decode cJ6_bitCount_0f7a4 29 = .ok (.ldc_w 267, 3) := by decide +kernel
theorem dJ6_bitCount_0f7a4_32 : decode cJ6_bitCount_0f7a4 32 = .ok (.iand, 1) := by decide +kernel
theorem dJ6_bitCount_0f7a4_33 : decode cJ6_bitCount_0f7a4 33 = .ok (.istore_n 0, 1) := by decide +kernel
theorem dJ6_bitCount_0f7a4_34 : decode cJ6_bitCount_0f7a4 34 = .ok (.iload_n 0, 1) := by decide +kernel
theorem dJ6_bitCount_0f7a4_35 : decode cJ6_bitCount_0f7a4 35 = .ok (.iload_n 0, 1) := by decide +kernel
theorem dJ6_bitCount_0f7a4_36 : decode cJ6_bitCount_0f7a4 36 = .ok (.bipush 8, 2) := by decide +kernel
theorem dJ6_bitCount_0f7a4_38 : decode cJ6_bitCount_0f7a4 38 = .ok (.iushr, 1) := by decide +kernel
theorem dJ6_bitCount_0f7a4_39 : decode cJ6_bitCount_0f7a4 39 = .ok (.iadd, 1) := by decide +kernel
theorem dJ6_bitCount_0f7a4_40 : decode cJ6_bitCount_0f7a4 40 = .ok (.istore_n 0, 1) := by decide +kernel
theorem dJ6_bitCount_0f7a4_41 : decode cJ6_bitCount_0f7a4 41 = .ok (.iload_n 0, 1) := by decide +kernel
theorem dJ6_bitCount_0f7a4_42 : decode cJ6_bitCount_0f7a4 42 = .ok (.iload_n 0, 1) := by decide +kernel
theorem dJ6_bitCount_0f7a4_43 : decode cJ6_bitCount_0f7a4 43 = .ok (.bipush 16, 2) := by decide +kernel
theorem dJ6_bitCount_0f7a4_45 : decode cJ6_bitCount_0f7a4 45 = .ok (.iushr, 1) := by decide +kernel
theorem dJ6_bitCount_0f7a4_46 : decode cJ6_bitCount_0f7a4 46 = .ok (.iadd, 1) := by decide +kernel
theorem dJ6_bitCount_0f7a4_47 : decode cJ6_bitCount_0f7a4 47 = .ok (.istore_n 0, 1) := by decide +kernel
theorem dJ6_bitCount_0f7a4_48 : decode cJ6_bitCount_0f7a4 48 = .ok (.iload_n 0, 1) := by decide +kernel
theorem dJ6_bitCount_0f7a4_49 : decode cJ6_bitCount_0f7a4 49 = .ok (.bipush 63, 2) := by decide +kernel
theorem dJ6_bitCount_0f7a4_51 : decode cJ6_bitCount_0f7a4 51 = .ok (.iand, 1) := by decide +kernel
theorem dJ6_bitCount_0f7a4_52 : decode cJ6_bitCount_0f7a4 52 = .ok (.ireturn, 1) := by decide +kernel
theorem dJ9_max_7cf53_0 : decode cJ9_max_7cf53 0 = .ok (.iload_n 0, 1) := by decide +kernel
theorem dJ9_max_7cf53_1 : decode cJ9_max_7cf53 1 = .ok (.iload_n 1, 1) := by decide +kernel
theorem dJ9_max_7cf53_2 : decode cJ9_max_7cf53 2 = .ok (.if_icmp .lt 7, 3) := by decide +kernel
theorem dJ9_max_7cf53_5 : decode cJ9_max_7cf53 5 = .ok (.iload_n 0, 1) := by decide +kernel
theorem dJ9_max_7cf53_6 : decode cJ9_max_7cf53 6 = .ok (.goto 4, 3) := by decide +kernel
theorem dJ9_max_7cf53_9 : decode cJ9_max_7cf53 9 = .ok (.iload_n 1, 1) := by decide +kernel
theorem dJ9_max_7cf53_10 : decode cJ9_max_7cf53 10 = .ok (.ireturn, 1) := by decide +kernel
theorem dJ9_min_7cf53_0 : decode cJ9_min_7cf53 0 = .ok (.iload_n 0, 1) := by decide +kernel
theorem dJ9_min_7cf53_1 : decode cJ9_min_7cf53 1 = .ok (.iload_n 1, 1) := by decide +kernel
theorem dJ9_min_7cf53_2 : decode cJ9_min_7cf53 2 = .ok (.if_icmp .gt 7, 3) := by decide +kernel
theorem dJ9_min_7cf53_5 : decode cJ9_min_7cf53 5 = .ok (.iload_n 0, 1) := by decide +kernel
theorem dJ9_min_7cf53_6 : decode cJ9_min_7cf53 6 = .ok (.goto 4, 3) := by decide +kernel
theorem dJ9_min_7cf53_9 : decode cJ9_min_7cf53 9 = .ok (.iload_n 1, 1) := by decide +kernel
theorem dJ9_min_7cf53_10 : decode cJ9_min_7cf53 10 = .ok (.ireturn, 1) := by decide +kernel
