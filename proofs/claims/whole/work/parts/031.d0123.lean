theorem dX0_init_0 : decode cX0_init 0 = .ok (.aload_n 0, 1) := by decide +kernel
theorem dX0_init_1 : decode cX0_init 1 = .ok (.invokespecial 3, 3) := by decide +kernel
theorem dX0_init_4 : decode cX0_init 4 = .ok (.aload_n 0, 1) := by decide +kernel
theorem dX0_init_5 : decode cX0_init 5 = .ok (.bipush 10, 2) := by decide +kernel
theorem dX0_init_7 : decode cX0_init 7 = .ok (.newarray .int, 2) := by decide +kernel
theorem dX0_init_9 : decode cX0_init 9 = .ok (.putfield 9, 3) := by decide +kernel
theorem dX0_init_12 : decode cX0_init 12 = .ok (.aload_n 0, 1) := by decide +kernel
theorem dX0_init_13 : decode cX0_init 13 = .ok (.aload_n 1, 1) := by decide +kernel
theorem dX0_init_14 : decode cX0_init 14 = .ok (.putfield 15, 3) := by decide +kernel
theorem dX0_init_17 : decode cX0_init 17 = .ok (.return_, 1) := by decide +kernel
theorem dX0_begin_0 : decode cX0_begin 0 = .ok (.aload_n 0, 1) := by decide +kernel
theorem dX0_begin_1 : decode cX0_begin 1 = .ok (.iconst 0, 1) := by decide +kernel
theorem dX0_begin_2 : decode cX0_begin 2 = .ok (.putfield 19, 3) := by decide +kernel
theorem dX0_begin_5 : decode cX0_begin 5 = .ok (.aload_n 0, 1) := by decide +kernel
theorem dX0_begin_6 : decode cX0_begin 6 = .ok (.aload_n 0, 1) := by decide +kernel
theorem dX0_begin_7 : decode cX0_begin 7 = .ok (.getfield 15, 3) := by decide +kernel
theorem dX0_begin_10 : decode cX0_begin 10 = .ok (.iconst 0, 1) := by decide +kernel
theorem dX0_begin_11 : decode cX0_begin 11 = .ok (.invokevirtual 23, 3) := by decide +kernel
theorem dX0_begin_14 : decode cX0_begin 14 = .ok (.iload_n 1, 1) := by decide +kernel
theorem dX0_begin_15 : decode cX0_begin 15 = .ok (.isub, 1) := by decide +kernel
theorem dX0_begin_16 : decode cX0_begin 16 = .ok (.iconst 0, 1) := by decide +kernel
theorem dX0_begin_17 : decode cX0_begin 17 = .ok (.invokestatic 29, 3) := by decide +kernel
theorem dX0_begin_20 : decode cX0_begin 20 = .ok (.putfield 35, 3) := by decide +kernel
theorem dX0_begin_23 : decode cX0_begin 23 = .ok (.aload_n 0, 1) := by decide +kernel
theorem dX0_begin_24 : decode cX0_begin 24 = .ok (.iconst 1, 1) := by decide +kernel
theorem dX0_begin_25 : decode cX0_begin 25 = .ok (.putfield 38, 3) := by decide +kernel
theorem dX0_begin_28 : decode cX0_begin 28 = .ok (.return_, 1) := by decide +kernel
theorem dX0_put_0 : decode cX0_put 0 = .ok (.aload_n 0, 1) := by decide +kernel
theorem dX0_put_1 : decode cX0_put 1 = .ok (.getfield 38, 3) := by decide +kernel
theorem dX0_put_4 : decode cX0_put 4 = .ok (.ifCond .eq 7, 3) := by decide +kernel
theorem dX0_put_7 : decode cX0_put 7 = .ok (.iload_n 1, 1) := by decide +kernel
theorem dX0_put_8 : decode cX0_put 8 = .ok (.goto 6, 3) := by decide +kernel
theorem dX0_put_11 : decode cX0_put 11 = .ok (.iload_n 1, 1) := by decide +kernel
theorem dX0_put_12 : decode cX0_put 12 = .ok (.iconst 1, 1) := by decide +kernel
theorem dX0_put_13 : decode cX0_put 13 = .ok (.iadd, 1) := by decide +kernel
theorem dX0_put_14 : decode cX0_put 14 = .ok (.iload_n 2, 1) := by decide +kernel
theorem dX0_put_15 : decode cX0_put 15 = .ok (.imul, 1) := by decide +kernel
theorem dX0_put_16 : decode cX0_put 16 = .ok (.istore_n 3, 1) := by decide +kernel
theorem dX0_put_17 : decode cX0_put 17 = .ok (.aload_n 0, 1) := by decide +kernel
theorem dX0_put_18 : decode cX0_put 18 = .ok (.iconst 0, 1) := by decide +kernel
theorem dX0_put_19 : decode cX0_put 19 = .ok (.putfield 38, 3) := by decide +kernel
theorem dX0_put_22 : decode cX0_put 22 = .ok (.iload_n 3, 1) := by decide +kernel
theorem dX0_put_23 : decode cX0_put 23 = .ok (.aload_n 0, 1) := by decide +kernel
theorem dX0_put_24 : decode cX0_put 24 = .ok (.getfield 35, 3) := by decide +kernel
theorem dX0_put_27 : decode cX0_put 27 = .ok (.if_icmp .gt 15, 3) := by decide +kernel
theorem dX0_put_30 : decode cX0_put 30 = .ok (.aload_n 0, 1) := by decide +kernel
theorem dX0_put_31 : decode cX0_put 31 = .ok (.dup, 1) := by decide +kernel
theorem dX0_put_32 : decode cX0_put 32 = .ok (.getfield 35, 3) := by decide +kernel
theorem dX0_put_35 : decode cX0_put 35 = .ok (.iload_n 3, 1) := by decide +kernel
theorem dX0_put_36 : decode cX0_put 36 = .ok (.isub, 1) := by decide +kernel
theorem dX0_put_37 : decode cX0_put 37 = .ok (.putfield 35, 3) := by decide +kernel
theorem dX0_put_40 : decode cX0_put 40 = .ok (.iconst 1, 1) := by decide +kernel
theorem dX0_put_41 : decode cX0_put 41 = .ok (.ireturn, 1) := by decide +kernel
theorem dX0_put_42 : decode cX0_put 42 = .ok (.aload_n 0, 1) := by decide +kernel
theorem dX0_put_43 : decode cX0_put 43 = .ok (.getfield 19, 3) := by decide +kernel
theorem dX0_put_46 : decode cX0_put 46 = .ok (.iconst 1, 1) := by decide +kernel
theorem dX0_put_47 : decode cX0_put 47 = .ok (.iadd, 1) := by decide +kernel
theorem dX0_put_48 : decode cX0_put 48 = .ok (.istore 4, 2) := by decide +kernel
theorem dX0_put_50 : decode cX0_put 50 = .ok (.iload 4, 2) := by decide +kernel
theorem dX0_put_52 : decode cX0_put 52 = .ok (.aload_n 0, 1) := by decide +kernel
theorem dX0_put_53 : decode cX0_put 53 = .ok (.getfield 15, 3) := by decide +kernel
theorem dX0_put_56 : decode cX0_put 56 = .ok (.getfield 42, 3) := by decide +kernel
theorem dX0_put_59 : decode cX0_put 59 = .ok (.if_icmp .ge 49, 3) := by decide +kernel
theorem dX0_put_62 : decode cX0_put 62 = .ok (.iload_n 1, 1) := by decide +kernel
theorem dX0_put_63 : decode cX0_put 63 = .ok (.iload_n 2, 1) := by decide +kernel
theorem dX0_put_64 : decode cX0_put 64 = .ok (.imul, 1) := by decide +kernel
theorem dX0_put_65 : decode cX0_put 65 = .ok (.aload_n 0, 1) := by decide +kernel
theorem dX0_put_66 : decode cX0_put 66 = .ok (.getfield 15, 3) := by decide +kernel
theorem dX0_put_69 : decode cX0_put 69 = .ok (.iload 4, 2) := by decide +kernel
theorem dX0_put_71 : decode cX0_put 71 = .ok (.invokevirtual 23, 3) := by decide +kernel
theorem dX0_put_74 : decode cX0_put 74 = .ok (.if_icmp .gt 28, 3) := by decide +kernel
theorem dX0_put_77 : decode cX0_put 77 = .ok (.aload_n 0, 1) := by decide +kernel
theorem dX0_put_78 : decode cX0_put 78 = .ok (.iload 4, 2) := by decide +kernel
theorem dX0_put_80 : decode cX0_put 80 = .ok (.putfield 19, 3) := by decide +kernel
theorem dX0_put_83 : decode cX0_put 83 = .ok (.aload_n 0, 1) := by decide +kernel
theorem dX0_put_84 : decode cX0_put 84 = .ok (.aload_n 0, 1) := by decide +kernel
theorem dX0_put_85 : decode cX0_put 85 = .ok (.getfield 15, 3) := by decide +kernel
theorem dX0_put_88 : decode cX0_put 88 = .ok (.iload 4, 2) := by decide +kernel
theorem dX0_put_90 : decode cX0_put 90 = .ok (.invokevirtual 23, 3) := by decide +kernel
theorem dX0_put_93 : decode cX0_put 93 = .ok (.iload_n 1, 1) := by decide +kernel
theorem dX0_put_94 : decode cX0_put 94 = .ok (.iload_n 2, 1) := by decide +kernel
theorem dX0_put_95 : decode cX0_put 95 = .ok (.imul, 1) := by decide +kernel
theorem dX0_put_96 : decode cX0_put 96 = .ok (.isub, 1) := by decide +kernel
theorem dX0_put_97 : decode cX0_put 97 = .ok (.putfield 35, 3) := by decide +kernel
theorem dX0_put_100 : decode cX0_put 100 = .ok (.iconst 1, 1) := by decide +kernel
theorem dX0_put_101 : decode cX0_put 101 = .ok (.ireturn, 1) := by decide +kernel
theorem dX0_put_102 : decode cX0_put 102 = .ok (.iinc 4 1, 3) := by decide +kernel
theorem dX0_put_105 : decode cX0_put 105 = .ok (.goto (-55), 3) := by decide +kernel
theorem dX0_put_108 : decode cX0_put 108 = .ok (.iconst 0, 1) := by decide +kernel
theorem dX0_put_109 : decode cX0_put 109 = .ok (.ireturn, 1) := by decide +kernel
theorem dX0_goesOn_0 : decode cX0_goesOn 0 = .ok (.aload_n 0, 1) := by decide +kernel
theorem dX0_goesOn_1 : decode cX0_goesOn 1 = .ok (.iconst 0, 1) := by decide +kernel
theorem dX0_goesOn_2 : decode cX0_goesOn 2 = .ok (.invokevirtual 45, 3) := by decide +kernel
theorem dX0_goesOn_5 : decode cX0_goesOn 5 = .ok (.iconst 0, 1) := by decide +kernel
theorem dX0_goesOn_6 : decode cX0_goesOn 6 = .ok (.istore 4, 2) := by decide +kernel
theorem dX0_goesOn_8 : decode cX0_goesOn 8 = .ok (.iload 4, 2) := by decide +kernel
theorem dX0_goesOn_10 : decode cX0_goesOn 10 = .ok (.aload_n 0, 1) := by decide +kernel
theorem dX0_goesOn_11 : decode cX0_goesOn 11 = .ok (.getfield 15, 3) := by decide +kernel
theorem dX0_goesOn_14 : decode cX0_goesOn 14 = .ok (.getfield 49, 3) := by decide +kernel
theorem dX0_goesOn_17 : decode cX0_goesOn 17 = .ok (.if_icmp .ge 63, 3) := by decide +kernel
theorem dX0_goesOn_20 : decode cX0_goesOn 20 = .ok (.iload_n 2, 1) := by decide +kernel
theorem dX0_goesOn_21 : decode cX0_goesOn 21 = .ok (.iload 4, 2) := by decide +kernel
theorem dX0_goesOn_23 : decode cX0_goesOn 23 = .ok (.invokestatic 52, 3) := by decide +kernel
theorem dX0_goesOn_26 : decode cX0_goesOn 26 = .ok (.iconst 1, 1) := by decide +kernel
theorem dX0_goesOn_27 : decode cX0_goesOn 27 = .ok (.if_icmp .ne 47, 3) := by decide +kernel
theorem dX0_goesOn_30 : decode cX0_goesOn 30 = .ok (.aload_n 0, 1) := by decide +kernel
theorem dX0_goesOn_31 : decode cX0_goesOn 31 = .ok (.getfield 15, 3) := by decide +kernel
theorem dX0_goesOn_34 : decode cX0_goesOn 34 = .ok (.iload 4, 2) := by decide +kernel
theorem dX0_goesOn_36 : decode cX0_goesOn 36 = .ok (.iconst 0, 1) := by decide +kernel
theorem dX0_goesOn_37 : decode cX0_goesOn 37 = .ok (.invokevirtual 55, 3) := by decide +kernel
theorem dX0_goesOn_40 : decode cX0_goesOn 40 = .ok (.iload_n 3, 1) := by decide +kernel
theorem dX0_goesOn_41 : decode cX0_goesOn 41 = .ok (.iload 4, 2) := by decide +kernel
theorem dX0_goesOn_43 : decode cX0_goesOn 43 = .ok (.invokestatic 52, 3) := by decide +kernel
theorem dX0_goesOn_46 : decode cX0_goesOn 46 = .ok (.iconst 2, 1) := by decide +kernel
theorem dX0_goesOn_47 : decode cX0_goesOn 47 = .ok (.imul, 1) := by decide +kernel
theorem dX0_goesOn_48 : decode cX0_goesOn 48 = .ok (.iadd, 1) := by decide +kernel
theorem dX0_goesOn_49 : decode cX0_goesOn 49 = .ok (.istore 5, 2) := by decide +kernel
theorem dX0_goesOn_51 : decode cX0_goesOn 51 = .ok (.aload_n 0, 1) := by decide +kernel
theorem dX0_goesOn_52 : decode cX0_goesOn 52 = .ok (.iload 5, 2) := by decide +kernel
theorem dX0_goesOn_54 : decode cX0_goesOn 54 = .ok (.iload_n 1, 1) := by decide +kernel
theorem dX0_goesOn_55 : decode cX0_goesOn 55 = .ok (.invokevirtual 58, 3) := by decide +kernel
theorem dX0_goesOn_58 : decode cX0_goesOn 58 = .ok (.ifCond .ne 5, 3) := by decide +kernel
theorem dX0_goesOn_61 : decode cX0_goesOn 61 = .ok (.iconst 0, 1) := by decide +kernel
theorem dX0_goesOn_62 : decode cX0_goesOn 62 = .ok (.ireturn, 1) := by decide +kernel
theorem dX0_goesOn_63 : decode cX0_goesOn 63 = .ok (.aload_n 0, 1) := by decide +kernel
theorem dX0_goesOn_64 : decode cX0_goesOn 64 = .ok (.getfield 9, 3) := by decide +kernel
theorem dX0_goesOn_67 : decode cX0_goesOn 67 = .ok (.iload 4, 2) := by decide +kernel
theorem dX0_goesOn_69 : decode cX0_goesOn 69 = .ok (.aload_n 0, 1) := by decide +kernel
theorem dX0_goesOn_70 : decode cX0_goesOn 70 = .ok (.getfield 19, 3) := by decide +kernel
theorem dX0_goesOn_73 : decode cX0_goesOn 73 = .ok (.iastore, 1) := by decide +kernel
theorem dX0_goesOn_74 : decode cX0_goesOn 74 = .ok (.iinc 4 1, 3) := by decide +kernel
theorem dX0_goesOn_77 : decode cX0_goesOn 77 = .ok (.goto (-69), 3) := by decide +kernel
theorem dX0_goesOn_80 : decode cX0_goesOn 80 = .ok (.iconst 1, 1) := by decide +kernel
theorem dX0_goesOn_81 : decode cX0_goesOn 81 = .ok (.ireturn, 1) := by decide +kernel
theorem dX0_lineOfPiece_0 : decode cX0_lineOfPiece 0 = .ok (.aload_n 0, 1) := by decide +kernel
theorem dX0_lineOfPiece_1 : decode cX0_lineOfPiece 1 = .ok (.getfield 15, 3) := by decide +kernel
theorem dX0_lineOfPiece_4 : decode cX0_lineOfPiece 4 = .ok (.iload_n 1, 1) := by decide +kernel
theorem dX0_lineOfPiece_5 : decode cX0_lineOfPiece 5 = .ok (.invokevirtual 62, 3) := by decide +kernel
theorem dX0_lineOfPiece_8 : decode cX0_lineOfPiece 8 = .ok (.ifCond .eq 12, 3) := by decide +kernel
theorem dX0_lineOfPiece_11 : decode cX0_lineOfPiece 11 = .ok (.aload_n 0, 1) := by decide +kernel
theorem dX0_lineOfPiece_12 : decode cX0_lineOfPiece 12 = .ok (.getfield 9, 3) := by decide +kernel
theorem dX0_lineOfPiece_15 : decode cX0_lineOfPiece 15 = .ok (.iload_n 1, 1) := by decide +kernel
theorem dX0_lineOfPiece_16 : decode cX0_lineOfPiece 16 = .ok (.iaload, 1) := by decide +kernel
theorem dX0_lineOfPiece_17 : decode cX0_lineOfPiece 17 = .ok (.goto 5, 3) := by decide +kernel
theorem dX0_lineOfPiece_20 : decode cX0_lineOfPiece 20 = .ok (.bipush (-9), 2) := by decide +kernel
theorem dX0_lineOfPiece_22 : decode cX0_lineOfPiece 22 = .ok (.ireturn, 1) := by decide +kernel
theorem dX0_howFar_0 : decode cX0_howFar 0 = .ok (.aload_n 0, 1) := by decide +kernel
theorem dX0_howFar_1 : decode cX0_howFar 1 = .ok (.iload_n 2, 1) := by decide +kernel
theorem dX0_howFar_2 : decode cX0_howFar 2 = .ok (.invokevirtual 45, 3) := by decide +kernel
theorem dX0_howFar_5 : decode cX0_howFar 5 = .ok (.iconst 0, 1) := by decide +kernel
theorem dX0_howFar_6 : decode cX0_howFar 6 = .ok (.istore_n 3, 1) := by decide +kernel
theorem dX0_howFar_7 : decode cX0_howFar 7 = .ok (.iload_n 3, 1) := by decide +kernel
theorem dX0_howFar_8 : decode cX0_howFar 8 = .ok (.aload_n 0, 1) := by decide +kernel
theorem dX0_howFar_9 : decode cX0_howFar 9 = .ok (.getfield 15, 3) := by decide +kernel
theorem dX0_howFar_12 : decode cX0_howFar 12 = .ok (.getfield 49, 3) := by decide +kernel
theorem dX0_howFar_15 : decode cX0_howFar 15 = .ok (.if_icmp .ge 28, 3) := by decide +kernel
theorem dX0_howFar_18 : decode cX0_howFar 18 = .ok (.aload_n 0, 1) := by decide +kernel
theorem dX0_howFar_19 : decode cX0_howFar 19 = .ok (.aload_n 0, 1) := by decide +kernel
theorem dX0_howFar_20 : decode cX0_howFar 20 = .ok (.getfield 15, 3) := by decide +kernel
theorem dX0_howFar_23 : decode cX0_howFar 23 = .ok (.iload_n 3, 1) := by decide +kernel
theorem dX0_howFar_24 : decode cX0_howFar 24 = .ok (.iconst 0, 1) := by decide +kernel
theorem dX0_howFar_25 : decode cX0_howFar 25 = .ok (.invokevirtual 55, 3) := by decide +kernel
theorem dX0_howFar_28 : decode cX0_howFar 28 = .ok (.iload_n 1, 1) := by decide +kernel
theorem dX0_howFar_29 : decode cX0_howFar 29 = .ok (.invokevirtual 58, 3) := by decide +kernel
theorem dX0_howFar_32 : decode cX0_howFar 32 = .ok (.ifCond .ne 5, 3) := by decide +kernel
theorem dX0_howFar_35 : decode cX0_howFar 35 = .ok (.iload_n 3, 1) := by decide +kernel
theorem dX0_howFar_36 : decode cX0_howFar 36 = .ok (.ireturn, 1) := by decide +kernel
theorem dX0_howFar_37 : decode cX0_howFar 37 = .ok (.iinc 3 1, 3) := by decide +kernel
theorem dX0_howFar_40 : decode cX0_howFar 40 = .ok (.goto (-33), 3) := by decide +kernel
theorem dX0_howFar_43 : decode cX0_howFar 43 = .ok (.aload_n 0, 1) := by decide +kernel
theorem dX0_howFar_44 : decode cX0_howFar 44 = .ok (.getfield 15, 3) := by decide +kernel
theorem dX0_howFar_47 : decode cX0_howFar 47 = .ok (.getfield 49, 3) := by decide +kernel
theorem dX0_howFar_50 : decode cX0_howFar 50 = .ok (.ireturn, 1) := by decide +kernel
theorem dX1_init_0 : decode cX1_init 0 = .ok (.aload_n 0, 1) := by decide +kernel
theorem dX1_init_1 : decode cX1_init 1 = .ok (.invokespecial 3, 3) := by decide +kernel
theorem dX1_init_4 : decode cX1_init 4 = .ok (.aload_n 0, 1) := by decide +kernel
theorem dX1_init_5 : decode cX1_init 5 = .ok (.iconst 5, 1) := by decide +kernel
theorem dX1_init_6 : decode cX1_init 6 = .ok (.putfield 9, 3) := by decide +kernel
theorem dX1_init_9 : decode cX1_init 9 = .ok (.aload_n 0, 1) := by decide +kernel
theorem dX1_init_10 : decode cX1_init 10 = .ok (.bipush 60, 2) := by decide +kernel
theorem dX1_init_12 : decode cX1_init 12 = .ok (.newarray .int, 2) := by decide +kernel
theorem dX1_init_14 : decode cX1_init 14 = .ok (.putfield 15, 3) := by decide +kernel
theorem dX1_init_17 : decode cX1_init 17 = .ok (.aload_n 0, 1) := by decide +kernel
theorem dX1_init_18 : decode cX1_init 18 = .ok (.aload_n 1, 1) := by decide +kernel
theorem dX1_init_19 : decode cX1_init 19 = .ok (.putfield 19, 3) := by decide +kernel
theorem dX1_init_22 : decode cX1_init 22 = .ok (.return_, 1) := by decide +kernel
theorem dX1_begin_0 : decode cX1_begin 0 = .ok (.aload_n 0, 1) := by decide +kernel
theorem dX1_begin_1 : decode cX1_begin 1 = .ok (.iconst 0, 1) := by decide +kernel
theorem dX1_begin_2 : decode cX1_begin 2 = .ok (.putfield 23, 3) := by decide +kernel
theorem dX1_begin_5 : decode cX1_begin 5 = .ok (.aload_n 0, 1) := by decide +kernel
theorem dX1_begin_6 : decode cX1_begin 6 = .ok (.iconst 0, 1) := by decide +kernel
theorem dX1_begin_7 : decode cX1_begin 7 = .ok (.putfield 26, 3) := by decide +kernel
theorem dX1_begin_10 : decode cX1_begin 10 = .ok (.aload_n 0, 1) := by decide +kernel
theorem dX1_begin_11 : decode cX1_begin 11 = .ok (.aload_n 0, 1) := by decide +kernel
theorem dX1_begin_12 : decode cX1_begin 12 = .ok (.getfield 19, 3) := by decide +kernel
theorem dX1_begin_15 : decode cX1_begin 15 = .ok (.iconst 0, 1) := by decide +kernel
theorem dX1_begin_16 : decode cX1_begin 16 = .ok (.invokevirtual 29, 3) := by decide +kernel
theorem dX1_begin_19 : decode cX1_begin 19 = .ok (.putfield 35, 3) := by decide +kernel
theorem dX1_begin_22 : decode cX1_begin 22 = .ok (.aload_n 0, 1) := by decide +kernel
theorem dX1_begin_23 : decode cX1_begin 23 = .ok (.iconst 5, 1) := by decide +kernel
theorem dX1_begin_24 : decode cX1_begin 24 = .ok (.putfield 9, 3) := by decide +kernel
theorem dX1_begin_27 : decode cX1_begin 27 = .ok (.aload_n 0, 1) := by decide +kernel
theorem dX1_begin_28 : decode cX1_begin 28 = .ok (.iconst 0, 1) := by decide +kernel
theorem dX1_begin_29 : decode cX1_begin 29 = .ok (.putfield 38, 3) := by decide +kernel
theorem dX1_begin_32 : decode cX1_begin 32 = .ok (.aload_n 0, 1) := by decide +kernel
theorem dX1_begin_33 : decode cX1_begin 33 = .ok (.iconst 0, 1) := by decide +kernel
theorem dX1_begin_34 : decode cX1_begin 34 = .ok (.putfield 41, 3) := by decide +kernel
theorem dX1_begin_37 : decode cX1_begin 37 = .ok (.return_, 1) := by decide +kernel
theorem dX1_become_0 : decode cX1_become 0 = .ok (.aload_n 0, 1) := by decide +kernel
theorem dX1_become_1 : decode cX1_become 1 = .ok (.aload_n 1, 1) := by decide +kernel
theorem dX1_become_2 : decode cX1_become 2 = .ok (.getfield 23, 3) := by decide +kernel
theorem dX1_become_5 : decode cX1_become 5 = .ok (.putfield 23, 3) := by decide +kernel
theorem dX1_become_8 : decode cX1_become 8 = .ok (.aload_n 0, 1) := by decide +kernel
theorem dX1_become_9 : decode cX1_become 9 = .ok (.aload_n 1, 1) := by decide +kernel
theorem dX1_become_10 : decode cX1_become 10 = .ok (.getfield 26, 3) := by decide +kernel
theorem dX1_become_13 : decode cX1_become 13 = .ok (.putfield 26, 3) := by decide +kernel
theorem dX1_become_16 : decode cX1_become 16 = .ok (.aload_n 0, 1) := by decide +kernel
theorem dX1_become_17 : decode cX1_become 17 = .ok (.aload_n 1, 1) := by decide +kernel
theorem dX1_become_18 : decode cX1_become 18 = .ok (.getfield 35, 3) := by decide +kernel
theorem dX1_become_21 : decode cX1_become 21 = .ok (.putfield 35, 3) := by decide +kernel
theorem dX1_become_24 : decode cX1_become 24 = .ok (.aload_n 0, 1) := by decide +kernel
theorem dX1_become_25 : decode cX1_become 25 = .ok (.aload_n 1, 1) := by decide +kernel
theorem dX1_become_26 : decode cX1_become 26 = .ok (.getfield 9, 3) := by decide +kernel
theorem dX1_become_29 : decode cX1_become 29 = .ok (.putfield 9, 3) := by decide +kernel
theorem dX1_become_32 : decode cX1_become 32 = .ok (.aload_n 0, 1) := by decide +kernel
theorem dX1_become_33 : decode cX1_become 33 = .ok (.aload_n 1, 1) := by decide +kernel
theorem dX1_become_34 : decode cX1_become 34 = .ok (.getfield 38, 3) := by decide +kernel
theorem dX1_become_37 : decode cX1_become 37 = .ok (.putfield 38, 3) := by decide +kernel
theorem dX1_become_40 : decode cX1_become 40 = .ok (.aload_n 1, 1) := by decide +kernel
theorem dX1_become_41 : decode cX1_become 41 = .ok (.getfield 15, 3) := by decide +kernel
theorem dX1_become_44 : decode cX1_become 44 = .ok (.iconst 0, 1) := by decide +kernel
theorem dX1_become_45 : decode cX1_become 45 = .ok (.aload_n 0, 1) := by decide +kernel
theorem dX1_become_46 : decode cX1_become 46 = .ok (.getfield 15, 3) := by decide +kernel
theorem dX1_become_49 : decode cX1_become 49 = .ok (.iconst 0, 1) := by decide +kernel
theorem dX1_become_50 : decode cX1_become 50 = .ok (.aload_n 0, 1) := by decide +kernel
theorem dX1_become_51 : decode cX1_become 51 = .ok (.getfield 15, 3) := by decide +kernel
theorem dX1_become_54 : decode cX1_become 54 = .ok (.arraylength, 1) := by decide +kernel
theorem dX1_become_55 : decode cX1_become 55 = .ok (.invokestatic 44, 3) := by decide +kernel
theorem dX1_become_58 : decode cX1_become 58 = .ok (.aload_n 0, 1) := by decide +kernel
theorem dX1_become_59 : decode cX1_become 59 = .ok (.aload_n 1, 1) := by decide +kernel
theorem dX1_become_60 : decode cX1_become 60 = .ok (.getfield 41, 3) := by decide +kernel
theorem dX1_become_63 : decode cX1_become 63 = .ok (.putfield 41, 3) := by decide +kernel
theorem dX1_become_66 : decode cX1_become 66 = .ok (.return_, 1) := by decide +kernel
theorem dX1_hasNext_0 : decode cX1_hasNext 0 = .ok (.aload_n 0, 1) := by decide +kernel
theorem dX1_hasNext_1 : decode cX1_hasNext 1 = .ok (.getfield 19, 3) := by decide +kernel
theorem dX1_hasNext_4 : decode cX1_hasNext 4 = .ok (.aload_n 0, 1) := by decide +kernel
theorem dX1_hasNext_5 : decode cX1_hasNext 5 = .ok (.getfield 23, 3) := by decide +kernel
theorem dX1_hasNext_8 : decode cX1_hasNext 8 = .ok (.invokevirtual 50, 3) := by decide +kernel
theorem dX1_hasNext_11 : decode cX1_hasNext 11 = .ok (.ireturn, 1) := by decide +kernel
theorem dX1_canWrite_0 : decode cX1_canWrite 0 = .ok (.aload_n 0, 1) := by decide +kernel
theorem dX1_canWrite_1 : decode cX1_canWrite 1 = .ok (.invokevirtual 54, 3) := by decide +kernel
theorem dX1_canWrite_4 : decode cX1_canWrite 4 = .ok (.ifCond .eq 17, 3) := by decide +kernel
theorem dX1_canWrite_7 : decode cX1_canWrite 7 = .ok (.aload_n 0, 1) := by decide +kernel
theorem dX1_canWrite_8 : decode cX1_canWrite 8 = .ok (.getfield 19, 3) := by decide +kernel
theorem dX1_canWrite_11 : decode cX1_canWrite 11 = .ok (.getfield 58, 3) := by decide +kernel
theorem dX1_canWrite_14 : decode cX1_canWrite 14 = .ok (.ifCond .le 7, 3) := by decide +kernel
theorem dX1_canWrite_17 : decode cX1_canWrite 17 = .ok (.iconst 1, 1) := by decide +kernel
theorem dX1_canWrite_18 : decode cX1_canWrite 18 = .ok (.goto 4, 3) := by decide +kernel
theorem dX1_canWrite_21 : decode cX1_canWrite 21 = .ok (.iconst 0, 1) := by decide +kernel
theorem dX1_canWrite_22 : decode cX1_canWrite 22 = .ok (.ireturn, 1) := by decide +kernel
theorem dX1_put_0 : decode cX1_put 0 = .ok (.aload_n 0, 1) := by decide +kernel
theorem dX1_put_1 : decode cX1_put 1 = .ok (.invokevirtual 61, 3) := by decide +kernel
theorem dX1_put_4 : decode cX1_put 4 = .ok (.iload_n 1, 1) := by decide +kernel
theorem dX1_put_5 : decode cX1_put 5 = .ok (.iadd, 1) := by decide +kernel
theorem dX1_put_6 : decode cX1_put 6 = .ok (.aload_n 0, 1) := by decide +kernel
theorem dX1_put_7 : decode cX1_put 7 = .ok (.getfield 9, 3) := by decide +kernel
theorem dX1_put_10 : decode cX1_put 10 = .ok (.imul, 1) := by decide +kernel
theorem dX1_put_11 : decode cX1_put 11 = .ok (.istore_n 2, 1) := by decide +kernel
theorem dX1_put_12 : decode cX1_put 12 = .ok (.iload_n 2, 1) := by decide +kernel
theorem dX1_put_13 : decode cX1_put 13 = .ok (.aload_n 0, 1) := by decide +kernel
theorem dX1_put_14 : decode cX1_put 14 = .ok (.getfield 35, 3) := by decide +kernel
theorem dX1_put_17 : decode cX1_put 17 = .ok (.if_icmp .le 6, 3) := by decide +kernel
theorem dX1_put_20 : decode cX1_put 20 = .ok (.bipush (-2), 2) := by decide +kernel
theorem dX1_put_22 : decode cX1_put 22 = .ok (.ireturn, 1) := by decide +kernel
theorem dX1_put_23 : decode cX1_put 23 = .ok (.aload_n 0, 1) := by decide +kernel
theorem dX1_put_24 : decode cX1_put 24 = .ok (.invokevirtual 65, 3) := by decide +kernel
theorem dX1_put_27 : decode cX1_put 27 = .ok (.aload_n 0, 1) := by decide +kernel
theorem dX1_put_28 : decode cX1_put 28 = .ok (.dup, 1) := by decide +kernel
theorem dX1_put_29 : decode cX1_put 29 = .ok (.getfield 35, 3) := by decide +kernel
theorem dX1_put_32 : decode cX1_put 32 = .ok (.iload_n 2, 1) := by decide +kernel
theorem dX1_put_33 : decode cX1_put 33 = .ok (.isub, 1) := by decide +kernel
theorem dX1_put_34 : decode cX1_put 34 = .ok (.putfield 35, 3) := by decide +kernel
theorem dX1_put_37 : decode cX1_put 37 = .ok (.aload_n 0, 1) := by decide +kernel
theorem dX1_put_38 : decode cX1_put 38 = .ok (.dup, 1) := by decide +kernel
theorem dX1_put_39 : decode cX1_put 39 = .ok (.getfield 23, 3) := by decide +kernel
theorem dX1_put_42 : decode cX1_put 42 = .ok (.iconst 1, 1) := by decide +kernel
theorem dX1_put_43 : decode cX1_put 43 = .ok (.iadd, 1) := by decide +kernel
theorem dX1_put_44 : decode cX1_put 44 = .ok (.putfield 23, 3) := by decide +kernel
theorem dX1_put_47 : decode cX1_put 47 = .ok (.aload_n 0, 1) := by decide +kernel
theorem dX1_put_48 : decode cX1_put 48 = .ok (.getfield 35, 3) := by decide +kernel
theorem dX1_put_51 : decode cX1_put 51 = .ok (.ireturn, 1) := by decide +kernel
theorem dX1_putBroken_0 : decode cX1_putBroken 0 = .ok (.iconst 1, 1) := by decide +kernel
theorem dX1_putBroken_1 : decode cX1_putBroken 1 = .ok (.istore_n 3, 1) := by decide +kernel
theorem dX1_putBroken_2 : decode cX1_putBroken 2 = .ok (.aload_n 0, 1) := by decide +kernel
theorem dX1_putBroken_3 : decode cX1_putBroken 3 = .ok (.invokevirtual 61, 3) := by decide +kernel
theorem dX1_putBroken_6 : decode cX1_putBroken 6 = .ok (.iload_n 1, 1) := by decide +kernel
theorem dX1_putBroken_7 : decode cX1_putBroken 7 = .ok (.iadd, 1) := by decide +kernel
theorem dX1_putBroken_8 : decode cX1_putBroken 8 = .ok (.iload_n 3, 1) := by decide +kernel
theorem dX1_putBroken_9 : decode cX1_putBroken 9 = .ok (.iadd, 1) := by decide +kernel
theorem dX1_putBroken_10 : decode cX1_putBroken 10 = .ok (.aload_n 0, 1) := by decide +kernel
theorem dX1_putBroken_11 : decode cX1_putBroken 11 = .ok (.getfield 9, 3) := by decide +kernel
theorem dX1_putBroken_14 : decode cX1_putBroken 14 = .ok (.imul, 1) := by decide +kernel
theorem dX1_putBroken_15 : decode cX1_putBroken 15 = .ok (.istore 4, 2) := by decide +kernel
theorem dX1_putBroken_17 : decode cX1_putBroken 17 = .ok (.aload_n 0, 1) := by decide +kernel
theorem dX1_putBroken_18 : decode cX1_putBroken 18 = .ok (.getfield 19, 3) := by decide +kernel
theorem dX1_putBroken_21 : decode cX1_putBroken 21 = .ok (.aload_n 0, 1) := by decide +kernel
theorem dX1_putBroken_22 : decode cX1_putBroken 22 = .ok (.getfield 26, 3) := by decide +kernel
theorem dX1_putBroken_25 : decode cX1_putBroken 25 = .ok (.iconst 1, 1) := by decide +kernel
theorem dX1_putBroken_26 : decode cX1_putBroken 26 = .ok (.iadd, 1) := by decide +kernel
theorem dX1_putBroken_27 : decode cX1_putBroken 27 = .ok (.invokevirtual 29, 3) := by decide +kernel
theorem dX1_putBroken_30 : decode cX1_putBroken 30 = .ok (.istore 5, 2) := by decide +kernel
theorem dX1_putBroken_32 : decode cX1_putBroken 32 = .ok (.iload 4, 2) := by decide +kernel
theorem dX1_putBroken_34 : decode cX1_putBroken 34 = .ok (.aload_n 0, 1) := by decide +kernel
theorem dX1_putBroken_35 : decode cX1_putBroken 35 = .ok (.getfield 35, 3) := by decide +kernel
theorem dX1_putBroken_38 : decode cX1_putBroken 38 = .ok (.if_icmp .gt 14, 3) := by decide +kernel
theorem dX1_putBroken_41 : decode cX1_putBroken 41 = .ok (.iload_n 2, 1) := by decide +kernel
theorem dX1_putBroken_42 : decode cX1_putBroken 42 = .ok (.aload_n 0, 1) := by decide +kernel
theorem dX1_putBroken_43 : decode cX1_putBroken 43 = .ok (.getfield 9, 3) := by decide +kernel
theorem dX1_putBroken_46 : decode cX1_putBroken 46 = .ok (.imul, 1) := by decide +kernel
theorem dX1_putBroken_47 : decode cX1_putBroken 47 = .ok (.iload 5, 2) := by decide +kernel
theorem dX1_putBroken_49 : decode cX1_putBroken 49 = .ok (.if_icmp .le 6, 3) := by decide +kernel
theorem dX1_putBroken_52 : decode cX1_putBroken 52 = .ok (.bipush (-2), 2) := by decide +kernel
theorem dX1_putBroken_54 : decode cX1_putBroken 54 = .ok (.ireturn, 1) := by decide +kernel
theorem dX1_putBroken_55 : decode cX1_putBroken 55 = .ok (.aload_n 0, 1) := by decide +kernel
theorem dX1_putBroken_56 : decode cX1_putBroken 56 = .ok (.invokevirtual 65, 3) := by decide +kernel
theorem dX1_putBroken_59 : decode cX1_putBroken 59 = .ok (.aload_n 0, 1) := by decide +kernel
theorem dX1_putBroken_60 : decode cX1_putBroken 60 = .ok (.dup, 1) := by decide +kernel
theorem dX1_putBroken_61 : decode cX1_putBroken 61 = .ok (.getfield 26, 3) := by decide +kernel
theorem dX1_putBroken_64 : decode cX1_putBroken 64 = .ok (.iconst 1, 1) := by decide +kernel
theorem dX1_putBroken_65 : decode cX1_putBroken 65 = .ok (.iadd, 1) := by decide +kernel
theorem dX1_putBroken_66 : decode cX1_putBroken 66 = .ok (.putfield 26, 3) := by decide +kernel
theorem dX1_putBroken_69 : decode cX1_putBroken 69 = .ok (.aload_n 0, 1) := by decide +kernel
theorem dX1_putBroken_70 : decode cX1_putBroken 70 = .ok (.iload 5, 2) := by decide +kernel
theorem dX1_putBroken_72 : decode cX1_putBroken 72 = .ok (.iload_n 2, 1) := by decide +kernel
theorem dX1_putBroken_73 : decode cX1_putBroken 73 = .ok (.aload_n 0, 1) := by decide +kernel
theorem dX1_putBroken_74 : decode cX1_putBroken 74 = .ok (.getfield 9, 3) := by decide +kernel
theorem dX1_putBroken_77 : decode cX1_putBroken 77 = .ok (.imul, 1) := by decide +kernel
theorem dX1_putBroken_78 : decode cX1_putBroken 78 = .ok (.isub, 1) := by decide +kernel
theorem dX1_putBroken_79 : decode cX1_putBroken 79 = .ok (.putfield 35, 3) := by decide +kernel
theorem dX1_putBroken_82 : decode cX1_putBroken 82 = .ok (.aload_n 0, 1) := by decide +kernel
theorem dX1_putBroken_83 : decode cX1_putBroken 83 = .ok (.dup, 1) := by decide +kernel
theorem dX1_putBroken_84 : decode cX1_putBroken 84 = .ok (.getfield 23, 3) := by decide +kernel
theorem dX1_putBroken_87 : decode cX1_putBroken 87 = .ok (.iconst 1, 1) := by decide +kernel
theorem dX1_putBroken_88 : decode cX1_putBroken 88 = .ok (.iadd, 1) := by decide +kernel
theorem dX1_putBroken_89 : decode cX1_putBroken 89 = .ok (.putfield 23, 3) := by decide +kernel
theorem dX1_putBroken_92 : decode cX1_putBroken 92 = .ok (.aload_n 0, 1) := by decide +kernel
theorem dX1_putBroken_93 : decode cX1_putBroken 93 = .ok (.getfield 35, 3) := by decide +kernel
theorem dX1_putBroken_96 : decode cX1_putBroken 96 = .ok (.ireturn, 1) := by decide +kernel
theorem dX1_blank_0 : decode cX1_blank 0 = .ok (.aload_n 0, 1) := by decide +kernel
theorem dX1_blank_1 : decode cX1_blank 1 = .ok (.getfield 35, 3) := by decide +kernel
theorem dX1_blank_4 : decode cX1_blank 4 = .ok (.aload_n 0, 1) := by decide +kernel
theorem dX1_blank_5 : decode cX1_blank 5 = .ok (.getfield 19, 3) := by decide +kernel
theorem dX1_blank_8 : decode cX1_blank 8 = .ok (.aload_n 0, 1) := by decide +kernel
theorem dX1_blank_9 : decode cX1_blank 9 = .ok (.getfield 26, 3) := by decide +kernel
theorem dX1_blank_12 : decode cX1_blank 12 = .ok (.invokevirtual 29, 3) := by decide +kernel
theorem dX1_blank_15 : decode cX1_blank 15 = .ok (.if_icmp .ne 7, 3) := by decide +kernel
theorem dX1_blank_18 : decode cX1_blank 18 = .ok (.iconst 0, 1) := by decide +kernel
theorem dX1_blank_19 : decode cX1_blank 19 = .ok (.goto 4, 3) := by decide +kernel
theorem dX1_blank_22 : decode cX1_blank 22 = .ok (.iconst 1, 1) := by decide +kernel
theorem dX1_blank_23 : decode cX1_blank 23 = .ok (.ireturn, 1) := by decide +kernel
theorem dX1_leaveOut_0 : decode cX1_leaveOut 0 = .ok (.aload_n 0, 1) := by decide +kernel
theorem dX1_leaveOut_1 : decode cX1_leaveOut 1 = .ok (.invokevirtual 65, 3) := by decide +kernel
theorem dX1_leaveOut_4 : decode cX1_leaveOut 4 = .ok (.aload_n 0, 1) := by decide +kernel
theorem dX1_leaveOut_5 : decode cX1_leaveOut 5 = .ok (.dup, 1) := by decide +kernel
theorem dX1_leaveOut_6 : decode cX1_leaveOut 6 = .ok (.getfield 38, 3) := by decide +kernel
theorem dX1_leaveOut_9 : decode cX1_leaveOut 9 = .ok (.iconst 1, 1) := by decide +kernel
theorem dX1_leaveOut_10 : decode cX1_leaveOut 10 = .ok (.aload_n 0, 1) := by decide +kernel
theorem dX1_leaveOut_11 : decode cX1_leaveOut 11 = .ok (.getfield 23, 3) := by decide +kernel
theorem dX1_leaveOut_14 : decode cX1_leaveOut 14 = .ok (.ishl, 1) := by decide +kernel
theorem dX1_leaveOut_15 : decode cX1_leaveOut 15 = .ok (.ior, 1) := by decide +kernel
theorem dX1_leaveOut_16 : decode cX1_leaveOut 16 = .ok (.putfield 38, 3) := by decide +kernel
theorem dX1_leaveOut_19 : decode cX1_leaveOut 19 = .ok (.aload_n 0, 1) := by decide +kernel
theorem dX1_leaveOut_20 : decode cX1_leaveOut 20 = .ok (.dup, 1) := by decide +kernel
theorem dX1_leaveOut_21 : decode cX1_leaveOut 21 = .ok (.getfield 23, 3) := by decide +kernel
theorem dX1_leaveOut_24 : decode cX1_leaveOut 24 = .ok (.iconst 1, 1) := by decide +kernel
theorem dX1_leaveOut_25 : decode cX1_leaveOut 25 = .ok (.iadd, 1) := by decide +kernel
theorem dX1_leaveOut_26 : decode cX1_leaveOut 26 = .ok (.putfield 23, 3) := by decide +kernel
theorem dX1_leaveOut_29 : decode cX1_leaveOut 29 = .ok (.aload_n 0, 1) := by decide +kernel
theorem dX1_leaveOut_30 : decode cX1_leaveOut 30 = .ok (.getfield 38, 3) := by decide +kernel
theorem dX1_leaveOut_33 : decode cX1_leaveOut 33 = .ok (.invokestatic 68, 3) := by decide +kernel
theorem dX1_leaveOut_36 : decode cX1_leaveOut 36 = .ok (.ireturn, 1) := by decide +kernel
theorem dX1_shrink_0 : decode cX1_shrink 0 = .ok (.aload_n 0, 1) := by decide +kernel
theorem dX1_shrink_1 : decode cX1_shrink 1 = .ok (.invokevirtual 65, 3) := by decide +kernel
theorem dX1_shrink_4 : decode cX1_shrink 4 = .ok (.aload_n 0, 1) := by decide +kernel
theorem dX1_shrink_5 : decode cX1_shrink 5 = .ok (.getfield 9, 3) := by decide +kernel
theorem dX1_shrink_8 : decode cX1_shrink 8 = .ok (.istore_n 2, 1) := by decide +kernel
theorem dX1_shrink_9 : decode cX1_shrink 9 = .ok (.aload_n 0, 1) := by decide +kernel
theorem dX1_shrink_10 : decode cX1_shrink 10 = .ok (.iload_n 1, 1) := by decide +kernel
theorem dX1_shrink_11 : decode cX1_shrink 11 = .ok (.putfield 9, 3) := by decide +kernel
theorem dX1_shrink_14 : decode cX1_shrink 14 = .ok (.iload_n 2, 1) := by decide +kernel
theorem dX1_shrink_15 : decode cX1_shrink 15 = .ok (.ireturn, 1) := by decide +kernel
theorem dX1_turn_0 : decode cX1_turn 0 = .ok (.aload_n 0, 1) := by decide +kernel
theorem dX1_turn_1 : decode cX1_turn 1 = .ok (.invokevirtual 65, 3) := by decide +kernel
theorem dX1_turn_4 : decode cX1_turn 4 = .ok (.aload_n 0, 1) := by decide +kernel
theorem dX1_turn_5 : decode cX1_turn 5 = .ok (.dup, 1) := by decide +kernel
theorem dX1_turn_6 : decode cX1_turn 6 = .ok (.getfield 26, 3) := by decide +kernel
theorem dX1_turn_9 : decode cX1_turn 9 = .ok (.iconst 1, 1) := by decide +kernel
theorem dX1_turn_10 : decode cX1_turn 10 = .ok (.iadd, 1) := by decide +kernel
theorem dX1_turn_11 : decode cX1_turn 11 = .ok (.putfield 26, 3) := by decide +kernel
theorem dX1_turn_14 : decode cX1_turn 14 = .ok (.aload_n 0, 1) := by decide +kernel
theorem dX1_turn_15 : decode cX1_turn 15 = .ok (.aload_n 0, 1) := by decide +kernel
theorem dX1_turn_16 : decode cX1_turn 16 = .ok (.getfield 19, 3) := by decide +kernel
theorem dX1_turn_19 : decode cX1_turn 19 = .ok (.aload_n 0, 1) := by decide +kernel
theorem dX1_turn_20 : decode cX1_turn 20 = .ok (.getfield 26, 3) := by decide +kernel
theorem dX1_turn_23 : decode cX1_turn 23 = .ok (.invokevirtual 29, 3) := by decide +kernel
theorem dX1_turn_26 : decode cX1_turn 26 = .ok (.putfield 35, 3) := by decide +kernel
theorem dX1_turn_29 : decode cX1_turn 29 = .ok (.aload_n 0, 1) := by decide +kernel
theorem dX1_turn_30 : decode cX1_turn 30 = .ok (.getfield 26, 3) := by decide +kernel
theorem dX1_turn_33 : decode cX1_turn 33 = .ok (.ireturn, 1) := by decide +kernel
theorem dX1_remember_0 : decode cX1_remember 0 = .ok (.aload_n 0, 1) := by decide +kernel
theorem dX1_remember_1 : decode cX1_remember 1 = .ok (.getfield 41, 3) := by decide +kernel
theorem dX1_remember_4 : decode cX1_remember 4 = .ok (.bipush 12, 2) := by decide +kernel
theorem dX1_remember_6 : decode cX1_remember 6 = .ok (.if_icmp .lt 28, 3) := by decide +kernel
theorem dX1_remember_9 : decode cX1_remember 9 = .ok (.aload_n 0, 1) := by decide +kernel
theorem dX1_remember_10 : decode cX1_remember 10 = .ok (.bipush 11, 2) := by decide +kernel
theorem dX1_remember_12 : decode cX1_remember 12 = .ok (.putfield 41, 3) := by decide +kernel
theorem dX1_remember_15 : decode cX1_remember 15 = .ok (.aload_n 0, 1) := by decide +kernel
theorem dX1_remember_16 : decode cX1_remember 16 = .ok (.getfield 15, 3) := by decide +kernel
theorem dX1_remember_19 : decode cX1_remember 19 = .ok (.iconst 5, 1) := by decide +kernel
theorem dX1_remember_20 : decode cX1_remember 20 = .ok (.aload_n 0, 1) := by decide +kernel
theorem dX1_remember_21 : decode cX1_remember 21 = .ok (.getfield 15, 3) := by decide +kernel
theorem dX1_remember_24 : decode cX1_remember 24 = .ok (.iconst 0, 1) := by decide +kernel
theorem dX1_remember_25 : decode cX1_remember 25 = .ok (.aload_n 0, 1) := by decide +kernel
theorem dX1_remember_26 : decode cX1_remember 26 = .ok (.getfield 41, 3) := by decide +kernel
theorem dX1_remember_29 : decode cX1_remember 29 = .ok (.iconst 5, 1) := by decide +kernel
theorem dX1_remember_30 : decode cX1_remember 30 = .ok (.imul, 1) := by decide +kernel
theorem dX1_remember_31 : decode cX1_remember 31 = .ok (.invokestatic 44, 3) := by decide +kernel
theorem dX1_remember_34 : decode cX1_remember 34 = .ok (.aload_n 0, 1) := by decide +kernel
theorem dX1_remember_35 : decode cX1_remember 35 = .ok (.getfield 41, 3) := by decide +kernel
theorem dX1_remember_38 : decode cX1_remember 38 = .ok (.iconst 5, 1) := by decide +kernel
theorem dX1_remember_39 : decode cX1_remember 39 = .ok (.imul, 1) := by decide +kernel
theorem dX1_remember_40 : decode cX1_remember 40 = .ok (.istore_n 1, 1) := by decide +kernel
theorem dX1_remember_41 : decode cX1_remember 41 = .ok (.aload_n 0, 1) := by decide +kernel
theorem dX1_remember_42 : decode cX1_remember 42 = .ok (.getfield 15, 3) := by decide +kernel
theorem dX1_remember_45 : decode cX1_remember 45 = .ok (.iload_n 1, 1) := by decide +kernel
theorem dX1_remember_46 : decode cX1_remember 46 = .ok (.aload_n 0, 1) := by decide +kernel
theorem dX1_remember_47 : decode cX1_remember 47 = .ok (.getfield 23, 3) := by decide +kernel
theorem dX1_remember_50 : decode cX1_remember 50 = .ok (.iastore, 1) := by decide +kernel
theorem dX1_remember_51 : decode cX1_remember 51 = .ok (.aload_n 0, 1) := by decide +kernel
theorem dX1_remember_52 : decode cX1_remember 52 = .ok (.getfield 15, 3) := by decide +kernel
theorem dX1_remember_55 : decode cX1_remember 55 = .ok (.iload_n 1, 1) := by decide +kernel
theorem dX1_remember_56 : decode cX1_remember 56 = .ok (.iconst 1, 1) := by decide +kernel
theorem dX1_remember_57 : decode cX1_remember 57 = .ok (.iadd, 1) := by decide +kernel
theorem dX1_remember_58 : decode cX1_remember 58 = .ok (.aload_n 0, 1) := by decide +kernel
theorem dX1_remember_59 : decode cX1_remember 59 = .ok (.getfield 26, 3) := by decide +kernel
theorem dX1_remember_62 : decode cX1_remember 62 = .ok (.iastore, 1) := by decide +kernel
theorem dX1_remember_63 : decode cX1_remember 63 = .ok (.aload_n 0, 1) := by decide +kernel
theorem dX1_remember_64 : decode cX1_remember 64 = .ok (.getfield 15, 3) := by decide +kernel
theorem dX1_remember_67 : decode cX1_remember 67 = .ok (.iload_n 1, 1) := by decide +kernel
theorem dX1_remember_68 : decode cX1_remember 68 = .ok (.iconst 2, 1) := by decide +kernel
theorem dX1_remember_69 : decode cX1_remember 69 = .ok (.iadd, 1) := by decide +kernel
theorem dX1_remember_70 : decode cX1_remember 70 = .ok (.aload_n 0, 1) := by decide +kernel
theorem dX1_remember_71 : decode cX1_remember 71 = .ok (.getfield 35, 3) := by decide +kernel
theorem dX1_remember_74 : decode cX1_remember 74 = .ok (.iastore, 1) := by decide +kernel
theorem dX1_remember_75 : decode cX1_remember 75 = .ok (.aload_n 0, 1) := by decide +kernel
theorem dX1_remember_76 : decode cX1_remember 76 = .ok (.getfield 15, 3) := by decide +kernel
theorem dX1_remember_79 : decode cX1_remember 79 = .ok (.iload_n 1, 1) := by decide +kernel
theorem dX1_remember_80 : decode cX1_remember 80 = .ok (.iconst 3, 1) := by decide +kernel
theorem dX1_remember_81 : decode cX1_remember 81 = .ok (.iadd, 1) := by decide +kernel
theorem dX1_remember_82 : decode cX1_remember 82 = .ok (.aload_n 0, 1) := by decide +kernel
theorem dX1_remember_83 : decode cX1_remember 83 = .ok (.getfield 9, 3) := by decide +kernel
theorem dX1_remember_86 : decode cX1_remember 86 = .ok (.iastore, 1) := by decide +kernel
theorem dX1_remember_87 : decode cX1_remember 87 = .ok (.aload_n 0, 1) := by decide +kernel
theorem dX1_remember_88 : decode cX1_remember 88 = .ok (.getfield 15, 3) := by decide +kernel
theorem dX1_remember_91 : decode cX1_remember 91 = .ok (.iload_n 1, 1) := by decide +kernel
theorem dX1_remember_92 : decode cX1_remember 92 = .ok (.iconst 4, 1) := by decide +kernel
theorem dX1_remember_93 : decode cX1_remember 93 = .ok (.iadd, 1) := by decide +kernel
theorem dX1_remember_94 : decode cX1_remember 94 = .ok (.aload_n 0, 1) := by decide +kernel
theorem dX1_remember_95 : decode cX1_remember 95 = .ok (.getfield 38, 3) := by decide +kernel
theorem dX1_remember_98 : decode cX1_remember 98 = .ok (.iastore, 1) := by decide +kernel
theorem dX1_remember_99 : decode cX1_remember 99 = .ok (.aload_n 0, 1) := by decide +kernel
theorem dX1_remember_100 : decode cX1_remember 100 = .ok (.dup, 1) := by decide +kernel
theorem dX1_remember_101 : decode cX1_remember 101 = .ok (.getfield 41, 3) := by decide +kernel
theorem dX1_remember_104 : decode cX1_remember 104 = .ok (.iconst 1, 1) := by decide +kernel
theorem dX1_remember_105 : decode cX1_remember 105 = .ok (.iadd, 1) := by decide +kernel
theorem dX1_remember_106 : decode cX1_remember 106 = .ok (.putfield 41, 3) := by decide +kernel
theorem dX1_remember_109 : decode cX1_remember 109 = .ok (.return_, 1) := by decide +kernel
theorem dX1_takeBack_0 : decode cX1_takeBack 0 = .ok (.aload_n 0, 1) := by decide +kernel
theorem dX1_takeBack_1 : decode cX1_takeBack 1 = .ok (.getfield 41, 3) := by decide +kernel
theorem dX1_takeBack_4 : decode cX1_takeBack 4 = .ok (.ifCond .le 78, 3) := by decide +kernel
theorem dX1_takeBack_7 : decode cX1_takeBack 7 = .ok (.aload_n 0, 1) := by decide +kernel
theorem dX1_takeBack_8 : decode cX1_takeBack 8 = .ok (.dup, 1) := by decide +kernel
theorem dX1_takeBack_9 : decode cX1_takeBack 9 = .ok (.getfield 41, 3) := by decide +kernel
theorem dX1_takeBack_12 : decode cX1_takeBack 12 = .ok (.iconst 1, 1) := by decide +kernel
theorem dX1_takeBack_13 : decode cX1_takeBack 13 = .ok (.isub, 1) := by decide +kernel
theorem dX1_takeBack_14 : decode cX1_takeBack 14 = .ok (.putfield 41, 3) := by decide +kernel
theorem dX1_takeBack_17 : decode cX1_takeBack 17 = .ok (.aload_n 0, 1) := by decide +kernel
theorem dX1_takeBack_18 : decode cX1_takeBack 18 = .ok (.getfield 41, 3) := by decide +kernel
theorem dX1_takeBack_21 : decode cX1_takeBack 21 = .ok (.iconst 5, 1) := by decide +kernel
theorem dX1_takeBack_22 : decode cX1_takeBack 22 = .ok (.imul, 1) := by decide +kernel
theorem dX1_takeBack_23 : decode cX1_takeBack 23 = .ok (.istore_n 1, 1) := by decide +kernel
theorem dX1_takeBack_24 : decode cX1_takeBack 24 = .ok (.aload_n 0, 1) := by decide +kernel
theorem dX1_takeBack_25 : decode cX1_takeBack 25 = .ok (.aload_n 0, 1) := by decide +kernel
theorem dX1_takeBack_26 : decode cX1_takeBack 26 = .ok (.getfield 15, 3) := by decide +kernel
theorem dX1_takeBack_29 : decode cX1_takeBack 29 = .ok (.iload_n 1, 1) := by decide +kernel
theorem dX1_takeBack_30 : decode cX1_takeBack 30 = .ok (.iaload, 1) := by decide +kernel
theorem dX1_takeBack_31 : decode cX1_takeBack 31 = .ok (.putfield 23, 3) := by decide +kernel
theorem dX1_takeBack_34 : decode cX1_takeBack 34 = .ok (.aload_n 0, 1) := by decide +kernel
theorem dX1_takeBack_35 : decode cX1_takeBack 35 = .ok (.aload_n 0, 1) := by decide +kernel
theorem dX1_takeBack_36 : decode cX1_takeBack 36 = .ok (.getfield 15, 3) := by decide +kernel
theorem dX1_takeBack_39 : decode cX1_takeBack 39 = .ok (.iload_n 1, 1) := by decide +kernel
theorem dX1_takeBack_40 : decode cX1_takeBack 40 = .ok (.iconst 1, 1) := by decide +kernel
theorem dX1_takeBack_41 : decode cX1_takeBack 41 = .ok (.iadd, 1) := by decide +kernel
theorem dX1_takeBack_42 : decode cX1_takeBack 42 = .ok (.iaload, 1) := by decide +kernel
theorem dX1_takeBack_43 : decode cX1_takeBack 43 = .ok (.putfield 26, 3) := by decide +kernel
theorem dX1_takeBack_46 : decode cX1_takeBack 46 = .ok (.aload_n 0, 1) := by decide +kernel
theorem dX1_takeBack_47 : decode cX1_takeBack 47 = .ok (.aload_n 0, 1) := by decide +kernel
theorem dX1_takeBack_48 : decode cX1_takeBack 48 = .ok (.getfield 15, 3) := by decide +kernel
theorem dX1_takeBack_51 : decode cX1_takeBack 51 = .ok (.iload_n 1, 1) := by decide +kernel
theorem dX1_takeBack_52 : decode cX1_takeBack 52 = .ok (.iconst 2, 1) := by decide +kernel
theorem dX1_takeBack_53 : decode cX1_takeBack 53 = .ok (.iadd, 1) := by decide +kernel
theorem dX1_takeBack_54 : decode cX1_takeBack 54 = .ok (.iaload, 1) := by decide +kernel
theorem dX1_takeBack_55 : decode cX1_takeBack 55 = .ok (.putfield 35, 3) := by decide +kernel
theorem dX1_takeBack_58 : decode cX1_takeBack 58 = .ok (.aload_n 0, 1) := by decide +kernel
theorem dX1_takeBack_59 : decode cX1_takeBack 59 = .ok (.aload_n 0, 1) := by decide +kernel
theorem dX1_takeBack_60 : decode cX1_takeBack 60 = .ok (.getfield 15, 3) := by decide +kernel
theorem dX1_takeBack_63 : decode cX1_takeBack 63 = .ok (.iload_n 1, 1) := by decide +kernel
theorem dX1_takeBack_64 : decode cX1_takeBack 64 = .ok (.iconst 3, 1) := by decide +kernel
theorem dX1_takeBack_65 : decode cX1_takeBack 65 = .ok (.iadd, 1) := by decide +kernel
theorem dX1_takeBack_66 : decode cX1_takeBack 66 = .ok (.iaload, 1) := by decide +kernel
theorem dX1_takeBack_67 : decode cX1_takeBack 67 = .ok (.putfield 9, 3) := by decide +kernel
theorem dX1_takeBack_70 : decode cX1_takeBack 70 = .ok (.aload_n 0, 1) := by decide +kernel
theorem dX1_takeBack_71 : decode cX1_takeBack 71 = .ok (.aload_n 0, 1) := by decide +kernel
theorem dX1_takeBack_72 : decode cX1_takeBack 72 = .ok (.getfield 15, 3) := by decide +kernel
theorem dX1_takeBack_75 : decode cX1_takeBack 75 = .ok (.iload_n 1, 1) := by decide +kernel
theorem dX1_takeBack_76 : decode cX1_takeBack 76 = .ok (.iconst 4, 1) := by decide +kernel
theorem dX1_takeBack_77 : decode cX1_takeBack 77 = .ok (.iadd, 1) := by decide +kernel
theorem dX1_takeBack_78 : decode cX1_takeBack 78 = .ok (.iaload, 1) := by decide +kernel
theorem dX1_takeBack_79 : decode cX1_takeBack 79 = .ok (.putfield 38, 3) := by decide +kernel
theorem dX1_takeBack_82 : decode cX1_takeBack 82 = .ok (.aload_n 0, 1) := by decide +kernel
theorem dX1_takeBack_83 : decode cX1_takeBack 83 = .ok (.getfield 41, 3) := by decide +kernel
theorem dX1_takeBack_86 : decode cX1_takeBack 86 = .ok (.ireturn, 1) := by decide +kernel
theorem dX2_init_0 : decode cX2_init 0 = .ok (.aload_n 0, 1) := by decide +kernel
theorem dX2_init_1 : decode cX2_init 1 = .ok (.invokespecial 3, 3) := by decide +kernel
theorem dX2_init_4 : decode cX2_init 4 = .ok (.aload_n 0, 1) := by decide +kernel
theorem dX2_init_5 : decode cX2_init 5 = .ok (.sipush 200, 3) := by decide +kernel
theorem dX2_init_8 : decode cX2_init 8 = .ok (.newarray .int, 2) := by decide +kernel
theorem dX2_init_10 : decode cX2_init 10 = .ok (.putfield 9, 3) := by decide +kernel
theorem dX2_init_13 : decode cX2_init 13 = .ok (.aload_n 0, 1) := by decide +kernel
theorem dX2_init_14 : decode cX2_init 14 = .ok (.iconst 5, 1) := by decide +kernel
theorem dX2_init_15 : decode cX2_init 15 = .ok (.newarray .int, 2) := by decide +kernel
theorem dX2_init_17 : decode cX2_init 17 = .ok (.putfield 15, 3) := by decide +kernel
theorem dX2_init_20 : decode cX2_init 20 = .ok (.return_, 1) := by decide +kernel
theorem dX2_add_0 : decode cX2_add 0 = .ok (.aload_n 0, 1) := by decide +kernel
theorem dX2_add_1 : decode cX2_add 1 = .ok (.getfield 18, 3) := by decide +kernel
theorem dX2_add_4 : decode cX2_add 4 = .ok (.sipush 200, 3) := by decide +kernel
theorem dX2_add_7 : decode cX2_add 7 = .ok (.if_icmp .lt 5, 3) := by decide +kernel
theorem dX2_add_10 : decode cX2_add 10 = .ok (.iconst 0, 1) := by decide +kernel
theorem dX2_add_11 : decode cX2_add 11 = .ok (.ireturn, 1) := by decide +kernel
theorem dX2_add_12 : decode cX2_add 12 = .ok (.aload_n 0, 1) := by decide +kernel
theorem dX2_add_13 : decode cX2_add 13 = .ok (.getfield 9, 3) := by decide +kernel
theorem dX2_add_16 : decode cX2_add 16 = .ok (.aload_n 0, 1) := by decide +kernel
theorem dX2_add_17 : decode cX2_add 17 = .ok (.getfield 18, 3) := by decide +kernel
theorem dX2_add_20 : decode cX2_add 20 = .ok (.iload_n 1, 1) := by decide +kernel
theorem dX2_add_21 : decode cX2_add 21 = .ok (.iastore, 1) := by decide +kernel
theorem dX2_add_22 : decode cX2_add 22 = .ok (.aload_n 0, 1) := by decide +kernel
theorem dX2_add_23 : decode cX2_add 23 = .ok (.dup, 1) := by decide +kernel
theorem dX2_add_24 : decode cX2_add 24 = .ok (.getfield 18, 3) := by decide +kernel
theorem dX2_add_27 : decode cX2_add 27 = .ok (.iconst 1, 1) := by decide +kernel
theorem dX2_add_28 : decode cX2_add 28 = .ok (.iadd, 1) := by decide +kernel
theorem dX2_add_29 : decode cX2_add 29 = .ok (.putfield 18, 3) := by decide +kernel
theorem dX2_add_32 : decode cX2_add 32 = .ok (.iconst 1, 1) := by decide +kernel
theorem dX2_add_33 : decode cX2_add 33 = .ok (.ireturn, 1) := by decide +kernel
theorem dX2_tellTo_0 : decode cX2_tellTo 0 = .ok (.aload_n 1, 1) := by decide +kernel
theorem dX2_tellTo_1 : decode cX2_tellTo 1 = .ok (.invokevirtual 22, 3) := by decide +kernel
theorem dX2_tellTo_4 : decode cX2_tellTo 4 = .ok (.aload_n 0, 1) := by decide +kernel
theorem dX2_tellTo_5 : decode cX2_tellTo 5 = .ok (.iconst 0, 1) := by decide +kernel
theorem dX2_tellTo_6 : decode cX2_tellTo 6 = .ok (.putfield 27, 3) := by decide +kernel
theorem dX2_tellTo_9 : decode cX2_tellTo 9 = .ok (.aload_n 0, 1) := by decide +kernel
theorem dX2_tellTo_10 : decode cX2_tellTo 10 = .ok (.iconst 0, 1) := by decide +kernel
theorem dX2_tellTo_11 : decode cX2_tellTo 11 = .ok (.putfield 30, 3) := by decide +kernel
theorem dX2_tellTo_14 : decode cX2_tellTo 14 = .ok (.aload_n 0, 1) := by decide +kernel
theorem dX2_tellTo_15 : decode cX2_tellTo 15 = .ok (.iconst 0, 1) := by decide +kernel
theorem dX2_tellTo_16 : decode cX2_tellTo 16 = .ok (.putfield 34, 3) := by decide +kernel
theorem dX2_tellTo_19 : decode cX2_tellTo 19 = .ok (.aload_n 0, 1) := by decide +kernel
theorem dX2_tellTo_20 : decode cX2_tellTo 20 = .ok (.getfield 34, 3) := by decide +kernel
theorem dX2_tellTo_23 : decode cX2_tellTo 23 = .ok (.bipush 17, 2) := by decide +kernel
theorem dX2_tellTo_25 : decode cX2_tellTo 25 = .ok (.if_icmp .gt 79, 3) := by decide +kernel
theorem dX2_tellTo_28 : decode cX2_tellTo 28 = .ok (.aload_n 0, 1) := by decide +kernel
theorem dX2_tellTo_29 : decode cX2_tellTo 29 = .ok (.invokevirtual 37, 3) := by decide +kernel
theorem dX2_tellTo_32 : decode cX2_tellTo 32 = .ok (.aload_n 0, 1) := by decide +kernel
theorem dX2_tellTo_33 : decode cX2_tellTo 33 = .ok (.getfield 40, 3) := by decide +kernel
theorem dX2_tellTo_36 : decode cX2_tellTo 36 = .ok (.ifCond .ne 5, 3) := by decide +kernel
theorem dX2_tellTo_39 : decode cX2_tellTo 39 = .ok (.iconst (-1), 1) := by decide +kernel
theorem dX2_tellTo_40 : decode cX2_tellTo 40 = .ok (.ireturn, 1) := by decide +kernel
theorem dX2_tellTo_41 : decode cX2_tellTo 41 = .ok (.aload_n 0, 1) := by decide +kernel
theorem dX2_tellTo_42 : decode cX2_tellTo 42 = .ok (.getfield 43, 3) := by decide +kernel
theorem dX2_tellTo_45 : decode cX2_tellTo 45 = .ok (.istore_n 2, 1) := by decide +kernel
theorem dX2_tellTo_46 : decode cX2_tellTo 46 = .ok (.aload_n 0, 1) := by decide +kernel
theorem dX2_tellTo_47 : decode cX2_tellTo 47 = .ok (.aload_n 1, 1) := by decide +kernel
theorem dX2_tellTo_48 : decode cX2_tellTo 48 = .ok (.invokevirtual 46, 3) := by decide +kernel
theorem dX2_tellTo_51 : decode cX2_tellTo 51 = .ok (.ifCond .eq 12, 3) := by decide +kernel
theorem dX2_tellTo_54 : decode cX2_tellTo 54 = .ok (.aload_n 0, 1) := by decide +kernel
theorem dX2_tellTo_55 : decode cX2_tellTo 55 = .ok (.iload_n 2, 1) := by decide +kernel
theorem dX2_tellTo_56 : decode cX2_tellTo 56 = .ok (.aload_n 1, 1) := by decide +kernel
theorem dX2_tellTo_57 : decode cX2_tellTo 57 = .ok (.invokevirtual 50, 3) := by decide +kernel
theorem dX2_tellTo_60 : decode cX2_tellTo 60 = .ok (.ifCond .ne 8, 3) := by decide +kernel
theorem dX2_tellTo_63 : decode cX2_tellTo 63 = .ok (.aload_n 0, 1) := by decide +kernel
theorem dX2_tellTo_64 : decode cX2_tellTo 64 = .ok (.getfield 54, 3) := by decide +kernel
theorem dX2_tellTo_67 : decode cX2_tellTo 67 = .ok (.ireturn, 1) := by decide +kernel
theorem dX2_tellTo_68 : decode cX2_tellTo 68 = .ok (.aload_n 0, 1) := by decide +kernel
theorem dX2_tellTo_69 : decode cX2_tellTo 69 = .ok (.invokevirtual 37, 3) := by decide +kernel
theorem dX2_tellTo_72 : decode cX2_tellTo 72 = .ok (.aload_n 0, 1) := by decide +kernel
theorem dX2_tellTo_73 : decode cX2_tellTo 73 = .ok (.getfield 40, 3) := by decide +kernel
theorem dX2_tellTo_76 : decode cX2_tellTo 76 = .ok (.iconst 3, 1) := by decide +kernel
theorem dX2_tellTo_77 : decode cX2_tellTo 77 = .ok (.if_icmp .eq 8, 3) := by decide +kernel
theorem dX2_tellTo_80 : decode cX2_tellTo 80 = .ok (.aload_n 0, 1) := by decide +kernel
theorem dX2_tellTo_81 : decode cX2_tellTo 81 = .ok (.getfield 54, 3) := by decide +kernel
theorem dX2_tellTo_84 : decode cX2_tellTo 84 = .ok (.ireturn, 1) := by decide +kernel
theorem dX2_tellTo_85 : decode cX2_tellTo 85 = .ok (.aload_n 0, 1) := by decide +kernel
theorem dX2_tellTo_86 : decode cX2_tellTo 86 = .ok (.iload_n 2, 1) := by decide +kernel
theorem dX2_tellTo_87 : decode cX2_tellTo 87 = .ok (.aload_n 1, 1) := by decide +kernel
theorem dX2_tellTo_88 : decode cX2_tellTo 88 = .ok (.invokevirtual 57, 3) := by decide +kernel
theorem dX2_tellTo_91 : decode cX2_tellTo 91 = .ok (.aload_n 0, 1) := by decide +kernel
theorem dX2_tellTo_92 : decode cX2_tellTo 92 = .ok (.dup, 1) := by decide +kernel
theorem dX2_tellTo_93 : decode cX2_tellTo 93 = .ok (.getfield 34, 3) := by decide +kernel
theorem dX2_tellTo_96 : decode cX2_tellTo 96 = .ok (.iconst 1, 1) := by decide +kernel
theorem dX2_tellTo_97 : decode cX2_tellTo 97 = .ok (.iadd, 1) := by decide +kernel
theorem dX2_tellTo_98 : decode cX2_tellTo 98 = .ok (.putfield 34, 3) := by decide +kernel
theorem dX2_tellTo_101 : decode cX2_tellTo 101 = .ok (.goto (-82), 3) := by decide +kernel
theorem dX2_tellTo_104 : decode cX2_tellTo 104 = .ok (.aload_n 0, 1) := by decide +kernel
theorem dX2_tellTo_105 : decode cX2_tellTo 105 = .ok (.getfield 54, 3) := by decide +kernel
theorem dX2_tellTo_108 : decode cX2_tellTo 108 = .ok (.ireturn, 1) := by decide +kernel
theorem dX2_mayBegin_0 : decode cX2_mayBegin 0 = .ok (.aload_n 0, 1) := by decide +kernel
theorem dX2_mayBegin_1 : decode cX2_mayBegin 1 = .ok (.getfield 40, 3) := by decide +kernel
theorem dX2_mayBegin_4 : decode cX2_mayBegin 4 = .ok (.iconst 1, 1) := by decide +kernel
theorem dX2_mayBegin_5 : decode cX2_mayBegin 5 = .ok (.if_icmp .eq 5, 3) := by decide +kernel
theorem dX2_mayBegin_8 : decode cX2_mayBegin 8 = .ok (.iconst 0, 1) := by decide +kernel
theorem dX2_mayBegin_9 : decode cX2_mayBegin 9 = .ok (.ireturn, 1) := by decide +kernel
theorem dX2_mayBegin_10 : decode cX2_mayBegin 10 = .ok (.aload_n 0, 1) := by decide +kernel
theorem dX2_mayBegin_11 : decode cX2_mayBegin 11 = .ok (.getfield 43, 3) := by decide +kernel
theorem dX2_mayBegin_14 : decode cX2_mayBegin 14 = .ok (.lookupswitch 77 #[(108, 34), (119, 49), (122, 64)], 34) := by decide +kernel
theorem dX2_mayBegin_48 : decode cX2_mayBegin 48 = .ok (.aload_n 1, 1) := by decide +kernel
theorem dX2_mayBegin_49 : decode cX2_mayBegin 49 = .ok (.getfield 61, 3) := by decide +kernel
theorem dX2_mayBegin_52 : decode cX2_mayBegin 52 = .ok (.bipush 6, 2) := by decide +kernel
theorem dX2_mayBegin_54 : decode cX2_mayBegin 54 = .ok (.if_icmp .ge 7, 3) := by decide +kernel
theorem dX2_mayBegin_57 : decode cX2_mayBegin 57 = .ok (.iconst 1, 1) := by decide +kernel
theorem dX2_mayBegin_58 : decode cX2_mayBegin 58 = .ok (.goto 4, 3) := by decide +kernel
theorem dX2_mayBegin_61 : decode cX2_mayBegin 61 = .ok (.iconst 0, 1) := by decide +kernel
theorem dX2_mayBegin_62 : decode cX2_mayBegin 62 = .ok (.ireturn, 1) := by decide +kernel
theorem dX2_mayBegin_63 : decode cX2_mayBegin 63 = .ok (.aload_n 1, 1) := by decide +kernel
theorem dX2_mayBegin_64 : decode cX2_mayBegin 64 = .ok (.getfield 64, 3) := by decide +kernel
theorem dX2_mayBegin_67 : decode cX2_mayBegin 67 = .ok (.bipush 10, 2) := by decide +kernel
theorem dX2_mayBegin_69 : decode cX2_mayBegin 69 = .ok (.if_icmp .ge 7, 3) := by decide +kernel
theorem dX2_mayBegin_72 : decode cX2_mayBegin 72 = .ok (.iconst 1, 1) := by decide +kernel
theorem dX2_mayBegin_73 : decode cX2_mayBegin 73 = .ok (.goto 4, 3) := by decide +kernel
theorem dX2_mayBegin_76 : decode cX2_mayBegin 76 = .ok (.iconst 0, 1) := by decide +kernel
theorem dX2_mayBegin_77 : decode cX2_mayBegin 77 = .ok (.ireturn, 1) := by decide +kernel
theorem dX2_mayBegin_78 : decode cX2_mayBegin 78 = .ok (.aload_n 0, 1) := by decide +kernel
theorem dX2_mayBegin_79 : decode cX2_mayBegin 79 = .ok (.getfield 30, 3) := by decide +kernel
theorem dX2_mayBegin_82 : decode cX2_mayBegin 82 = .ok (.ifCond .ne 7, 3) := by decide +kernel
theorem dX2_mayBegin_85 : decode cX2_mayBegin 85 = .ok (.iconst 1, 1) := by decide +kernel
theorem dX2_mayBegin_86 : decode cX2_mayBegin 86 = .ok (.goto 4, 3) := by decide +kernel
theorem dX2_mayBegin_89 : decode cX2_mayBegin 89 = .ok (.iconst 0, 1) := by decide +kernel
theorem dX2_mayBegin_90 : decode cX2_mayBegin 90 = .ok (.ireturn, 1) := by decide +kernel
theorem dX2_mayBegin_91 : decode cX2_mayBegin 91 = .ok (.iconst 0, 1) := by decide +kernel
theorem dX2_mayBegin_92 : decode cX2_mayBegin 92 = .ok (.ireturn, 1) := by decide +kernel
theorem dX2_readNumbers_0 : decode cX2_readNumbers 0 = .ok (.iload_n 1, 1) := by decide +kernel
theorem dX2_readNumbers_1 : decode cX2_readNumbers 1 = .ok (.bipush 119, 2) := by decide +kernel
theorem dX2_readNumbers_3 : decode cX2_readNumbers 3 = .ok (.if_icmp .ne 7, 3) := by decide +kernel
theorem dX2_readNumbers_6 : decode cX2_readNumbers 6 = .ok (.iconst 5, 1) := by decide +kernel
theorem dX2_readNumbers_7 : decode cX2_readNumbers 7 = .ok (.goto 4, 3) := by decide +kernel
theorem dX2_readNumbers_10 : decode cX2_readNumbers 10 = .ok (.iconst 1, 1) := by decide +kernel
theorem dX2_readNumbers_11 : decode cX2_readNumbers 11 = .ok (.istore_n 3, 1) := by decide +kernel
theorem dX2_readNumbers_12 : decode cX2_readNumbers 12 = .ok (.iconst 0, 1) := by decide +kernel
theorem dX2_readNumbers_13 : decode cX2_readNumbers 13 = .ok (.istore 4, 2) := by decide +kernel
theorem dX2_readNumbers_15 : decode cX2_readNumbers 15 = .ok (.iload 4, 2) := by decide +kernel
theorem dX2_readNumbers_17 : decode cX2_readNumbers 17 = .ok (.iload_n 3, 1) := by decide +kernel
theorem dX2_readNumbers_18 : decode cX2_readNumbers 18 = .ok (.if_icmp .ge 45, 3) := by decide +kernel
theorem dX2_readNumbers_21 : decode cX2_readNumbers 21 = .ok (.aload_n 0, 1) := by decide +kernel
theorem dX2_readNumbers_22 : decode cX2_readNumbers 22 = .ok (.invokevirtual 37, 3) := by decide +kernel
theorem dX2_readNumbers_25 : decode cX2_readNumbers 25 = .ok (.aload_n 0, 1) := by decide +kernel
theorem dX2_readNumbers_26 : decode cX2_readNumbers 26 = .ok (.getfield 40, 3) := by decide +kernel
theorem dX2_readNumbers_29 : decode cX2_readNumbers 29 = .ok (.iconst 2, 1) := by decide +kernel
theorem dX2_readNumbers_30 : decode cX2_readNumbers 30 = .ok (.if_icmp .ne 14, 3) := by decide +kernel
theorem dX2_readNumbers_33 : decode cX2_readNumbers 33 = .ok (.aload_n 0, 1) := by decide +kernel
theorem dX2_readNumbers_34 : decode cX2_readNumbers 34 = .ok (.iload_n 1, 1) := by decide +kernel
theorem dX2_readNumbers_35 : decode cX2_readNumbers 35 = .ok (.iload 4, 2) := by decide +kernel
theorem dX2_readNumbers_37 : decode cX2_readNumbers 37 = .ok (.aload_n 2, 1) := by decide +kernel
theorem dX2_readNumbers_38 : decode cX2_readNumbers 38 = .ok (.invokevirtual 67, 3) := by decide +kernel
theorem dX2_readNumbers_41 : decode cX2_readNumbers 41 = .ok (.ifCond .ne 5, 3) := by decide +kernel
theorem dX2_readNumbers_44 : decode cX2_readNumbers 44 = .ok (.iconst 0, 1) := by decide +kernel
theorem dX2_readNumbers_45 : decode cX2_readNumbers 45 = .ok (.ireturn, 1) := by decide +kernel
theorem dX2_readNumbers_46 : decode cX2_readNumbers 46 = .ok (.aload_n 0, 1) := by decide +kernel
theorem dX2_readNumbers_47 : decode cX2_readNumbers 47 = .ok (.getfield 15, 3) := by decide +kernel
theorem dX2_readNumbers_50 : decode cX2_readNumbers 50 = .ok (.iload 4, 2) := by decide +kernel
theorem dX2_readNumbers_52 : decode cX2_readNumbers 52 = .ok (.aload_n 0, 1) := by decide +kernel
theorem dX2_readNumbers_53 : decode cX2_readNumbers 53 = .ok (.getfield 43, 3) := by decide +kernel
theorem dX2_readNumbers_56 : decode cX2_readNumbers 56 = .ok (.iastore, 1) := by decide +kernel
theorem dX2_readNumbers_57 : decode cX2_readNumbers 57 = .ok (.iinc 4 1, 3) := by decide +kernel
theorem dX2_readNumbers_60 : decode cX2_readNumbers 60 = .ok (.goto (-45), 3) := by decide +kernel
theorem dX2_readNumbers_63 : decode cX2_readNumbers 63 = .ok (.iconst 1, 1) := by decide +kernel
theorem dX2_readNumbers_64 : decode cX2_readNumbers 64 = .ok (.ireturn, 1) := by decide +kernel
theorem dX2_mayBe_0 : decode cX2_mayBe 0 = .ok (.iload_n 1, 1) := by decide +kernel
theorem dX2_mayBe_1 : decode cX2_mayBe 1 = .ok (.bipush 108, 2) := by decide +kernel
theorem dX2_mayBe_3 : decode cX2_mayBe 3 = .ok (.if_icmp .ne 14, 3) := by decide +kernel
theorem dX2_mayBe_6 : decode cX2_mayBe 6 = .ok (.aload_n 0, 1) := by decide +kernel
theorem dX2_mayBe_7 : decode cX2_mayBe 7 = .ok (.getfield 43, 3) := by decide +kernel
theorem dX2_mayBe_10 : decode cX2_mayBe 10 = .ok (.iconst 1, 1) := by decide +kernel
theorem dX2_mayBe_11 : decode cX2_mayBe 11 = .ok (.bipush 60, 2) := by decide +kernel
theorem dX2_mayBe_13 : decode cX2_mayBe 13 = .ok (.invokestatic 71, 3) := by decide +kernel
theorem dX2_mayBe_16 : decode cX2_mayBe 16 = .ok (.ireturn, 1) := by decide +kernel
theorem dX2_mayBe_17 : decode cX2_mayBe 17 = .ok (.iload_n 1, 1) := by decide +kernel
theorem dX2_mayBe_18 : decode cX2_mayBe 18 = .ok (.bipush 122, 2) := by decide +kernel
theorem dX2_mayBe_20 : decode cX2_mayBe 20 = .ok (.if_icmp .ne 13, 3) := by decide +kernel
theorem dX2_mayBe_23 : decode cX2_mayBe 23 = .ok (.aload_n 0, 1) := by decide +kernel
theorem dX2_mayBe_24 : decode cX2_mayBe 24 = .ok (.getfield 43, 3) := by decide +kernel
theorem dX2_mayBe_27 : decode cX2_mayBe 27 = .ok (.iconst 1, 1) := by decide +kernel
theorem dX2_mayBe_28 : decode cX2_mayBe 28 = .ok (.iconst 5, 1) := by decide +kernel
theorem dX2_mayBe_29 : decode cX2_mayBe 29 = .ok (.invokestatic 71, 3) := by decide +kernel
theorem dX2_mayBe_32 : decode cX2_mayBe 32 = .ok (.ireturn, 1) := by decide +kernel
theorem dX2_mayBe_33 : decode cX2_mayBe 33 = .ok (.iload_n 2, 1) := by decide +kernel
theorem dX2_mayBe_34 : decode cX2_mayBe 34 = .ok (.tableswitch 89 0 3 #[30, 41, 52, 78], 30) := by decide +kernel
theorem dX2_mayBe_64 : decode cX2_mayBe 64 = .ok (.aload_n 0, 1) := by decide +kernel
theorem dX2_mayBe_65 : decode cX2_mayBe 65 = .ok (.getfield 43, 3) := by decide +kernel
theorem dX2_mayBe_68 : decode cX2_mayBe 68 = .ok (.iconst 1, 1) := by decide +kernel
theorem dX2_mayBe_69 : decode cX2_mayBe 69 = .ok (.bipush 12, 2) := by decide +kernel
theorem dX2_mayBe_71 : decode cX2_mayBe 71 = .ok (.invokestatic 71, 3) := by decide +kernel
theorem dX2_mayBe_74 : decode cX2_mayBe 74 = .ok (.ireturn, 1) := by decide +kernel
theorem dX2_mayBe_75 : decode cX2_mayBe 75 = .ok (.aload_n 0, 1) := by decide +kernel
theorem dX2_mayBe_76 : decode cX2_mayBe 76 = .ok (.getfield 43, 3) := by decide +kernel
theorem dX2_mayBe_79 : decode cX2_mayBe 79 = .ok (.iconst 0, 1) := by decide +kernel
theorem dX2_mayBe_80 : decode cX2_mayBe 80 = .ok (.bipush 9, 2) := by decide +kernel
theorem dX2_mayBe_82 : decode cX2_mayBe 82 = .ok (.invokestatic 71, 3) := by decide +kernel
theorem dX2_mayBe_85 : decode cX2_mayBe 85 = .ok (.ireturn, 1) := by decide +kernel
theorem dX2_mayBe_86 : decode cX2_mayBe 86 = .ok (.aload_n 3, 1) := by decide +kernel
theorem dX2_mayBe_87 : decode cX2_mayBe 87 = .ok (.aload_n 0, 1) := by decide +kernel
theorem dX2_mayBe_88 : decode cX2_mayBe 88 = .ok (.getfield 43, 3) := by decide +kernel
theorem dX2_mayBe_91 : decode cX2_mayBe 91 = .ok (.invokevirtual 75, 3) := by decide +kernel
theorem dX2_mayBe_94 : decode cX2_mayBe 94 = .ok (.ifCond .ne 12, 3) := by decide +kernel
theorem dX2_mayBe_97 : decode cX2_mayBe 97 = .ok (.aload_n 0, 1) := by decide +kernel
theorem dX2_mayBe_98 : decode cX2_mayBe 98 = .ok (.getfield 43, 3) := by decide +kernel
theorem dX2_mayBe_101 : decode cX2_mayBe 101 = .ok (.bipush 99, 2) := by decide +kernel
theorem dX2_mayBe_103 : decode cX2_mayBe 103 = .ok (.if_icmp .ne 7, 3) := by decide +kernel
theorem dX2_mayBe_106 : decode cX2_mayBe 106 = .ok (.iconst 1, 1) := by decide +kernel
theorem dX2_mayBe_107 : decode cX2_mayBe 107 = .ok (.goto 4, 3) := by decide +kernel
theorem dX2_mayBe_110 : decode cX2_mayBe 110 = .ok (.iconst 0, 1) := by decide +kernel
theorem dX2_mayBe_111 : decode cX2_mayBe 111 = .ok (.ireturn, 1) := by decide +kernel
theorem dX2_mayBe_112 : decode cX2_mayBe 112 = .ok (.aload_n 0, 1) := by decide +kernel
theorem dX2_mayBe_113 : decode cX2_mayBe 113 = .ok (.getfield 43, 3) := by decide +kernel
theorem dX2_mayBe_116 : decode cX2_mayBe 116 = .ok (.iconst 0, 1) := by decide +kernel
theorem dX2_mayBe_117 : decode cX2_mayBe 117 = .ok (.bipush 12, 2) := by decide +kernel
theorem dX2_mayBe_119 : decode cX2_mayBe 119 = .ok (.invokestatic 71, 3) := by decide +kernel
theorem dX2_mayBe_122 : decode cX2_mayBe 122 = .ok (.ireturn, 1) := by decide +kernel
theorem dX2_mayBe_123 : decode cX2_mayBe 123 = .ok (.aload_n 0, 1) := by decide +kernel
theorem dX2_mayBe_124 : decode cX2_mayBe 124 = .ok (.getfield 43, 3) := by decide +kernel
theorem dX2_mayBe_127 : decode cX2_mayBe 127 = .ok (.iconst 0, 1) := by decide +kernel
theorem dX2_mayBe_128 : decode cX2_mayBe 128 = .ok (.aload_n 0, 1) := by decide +kernel
theorem dX2_mayBe_129 : decode cX2_mayBe 129 = .ok (.getfield 15, 3) := by decide +kernel
theorem dX2_mayBe_132 : decode cX2_mayBe 132 = .ok (.iconst 0, 1) := by decide +kernel
theorem dX2_mayBe_133 : decode cX2_mayBe 133 = .ok (.iaload, 1) := by decide +kernel
theorem dX2_mayBe_134 : decode cX2_mayBe 134 = .ok (.iconst 1, 1) := by decide +kernel
theorem dX2_mayBe_135 : decode cX2_mayBe 135 = .ok (.isub, 1) := by decide +kernel
theorem dX2_mayBe_136 : decode cX2_mayBe 136 = .ok (.invokestatic 71, 3) := by decide +kernel
theorem dX2_mayBe_139 : decode cX2_mayBe 139 = .ok (.ireturn, 1) := by decide +kernel
theorem dX2_tell_0 : decode cX2_tell 0 = .ok (.iload_n 1, 1) := by decide +kernel
theorem dX2_tell_1 : decode cX2_tell 1 = .ok (.bipush 108, 2) := by decide +kernel
theorem dX2_tell_3 : decode cX2_tell 3 = .ok (.if_icmp .ne 16, 3) := by decide +kernel
theorem dX2_tell_6 : decode cX2_tell 6 = .ok (.aload_n 2, 1) := by decide +kernel
theorem dX2_tell_7 : decode cX2_tell 7 = .ok (.aload_n 0, 1) := by decide +kernel
theorem dX2_tell_8 : decode cX2_tell 8 = .ok (.getfield 15, 3) := by decide +kernel
theorem dX2_tell_11 : decode cX2_tell 11 = .ok (.iconst 0, 1) := by decide +kernel
theorem dX2_tell_12 : decode cX2_tell 12 = .ok (.iaload, 1) := by decide +kernel
theorem dX2_tell_13 : decode cX2_tell 13 = .ok (.invokevirtual 79, 3) := by decide +kernel
theorem dX2_tell_16 : decode cX2_tell 16 = .ok (.goto 35, 3) := by decide +kernel
theorem dX2_tell_19 : decode cX2_tell 19 = .ok (.iload_n 1, 1) := by decide +kernel
theorem dX2_tell_20 : decode cX2_tell 20 = .ok (.bipush 119, 2) := by decide +kernel
theorem dX2_tell_22 : decode cX2_tell 22 = .ok (.if_icmp .ne 14, 3) := by decide +kernel
theorem dX2_tell_25 : decode cX2_tell 25 = .ok (.aload_n 2, 1) := by decide +kernel
theorem dX2_tell_26 : decode cX2_tell 26 = .ok (.aload_n 0, 1) := by decide +kernel
theorem dX2_tell_27 : decode cX2_tell 27 = .ok (.getfield 15, 3) := by decide +kernel
theorem dX2_tell_30 : decode cX2_tell 30 = .ok (.invokevirtual 83, 3) := by decide +kernel
theorem dX2_tell_33 : decode cX2_tell 33 = .ok (.goto 18, 3) := by decide +kernel
theorem dX2_tell_36 : decode cX2_tell 36 = .ok (.aload_n 2, 1) := by decide +kernel
theorem dX2_tell_37 : decode cX2_tell 37 = .ok (.aload_n 0, 1) := by decide +kernel
theorem dX2_tell_38 : decode cX2_tell 38 = .ok (.getfield 15, 3) := by decide +kernel
theorem dX2_tell_41 : decode cX2_tell 41 = .ok (.iconst 0, 1) := by decide +kernel
theorem dX2_tell_42 : decode cX2_tell 42 = .ok (.iaload, 1) := by decide +kernel
theorem dX2_tell_43 : decode cX2_tell 43 = .ok (.putfield 87, 3) := by decide +kernel
theorem dX2_tell_46 : decode cX2_tell 46 = .ok (.aload_n 0, 1) := by decide +kernel
theorem dX2_tell_47 : decode cX2_tell 47 = .ok (.iconst 1, 1) := by decide +kernel
theorem dX2_tell_48 : decode cX2_tell 48 = .ok (.putfield 30, 3) := by decide +kernel
theorem dX2_tell_51 : decode cX2_tell 51 = .ok (.return_, 1) := by decide +kernel
theorem dX2_step_0 : decode cX2_step 0 = .ok (.aload_n 0, 1) := by decide +kernel
theorem dX2_step_1 : decode cX2_step 1 = .ok (.getfield 27, 3) := by decide +kernel
theorem dX2_step_4 : decode cX2_step 4 = .ok (.aload_n 0, 1) := by decide +kernel
theorem dX2_step_5 : decode cX2_step 5 = .ok (.getfield 18, 3) := by decide +kernel
theorem dX2_step_8 : decode cX2_step 8 = .ok (.if_icmp .ge 30, 3) := by decide +kernel
theorem dX2_step_11 : decode cX2_step 11 = .ok (.aload_n 0, 1) := by decide +kernel
theorem dX2_step_12 : decode cX2_step 12 = .ok (.getfield 9, 3) := by decide +kernel
theorem dX2_step_15 : decode cX2_step 15 = .ok (.aload_n 0, 1) := by decide +kernel
theorem dX2_step_16 : decode cX2_step 16 = .ok (.getfield 27, 3) := by decide +kernel
theorem dX2_step_19 : decode cX2_step 19 = .ok (.iaload, 1) := by decide +kernel
theorem dX2_step_20 : decode cX2_step 20 = .ok (.bipush 32, 2) := by decide +kernel
theorem dX2_step_22 : decode cX2_step 22 = .ok (.if_icmp .ne 16, 3) := by decide +kernel
theorem dX2_step_25 : decode cX2_step 25 = .ok (.aload_n 0, 1) := by decide +kernel
theorem dX2_step_26 : decode cX2_step 26 = .ok (.dup, 1) := by decide +kernel
theorem dX2_step_27 : decode cX2_step 27 = .ok (.getfield 27, 3) := by decide +kernel
theorem dX2_step_30 : decode cX2_step 30 = .ok (.iconst 1, 1) := by decide +kernel
theorem dX2_step_31 : decode cX2_step 31 = .ok (.iadd, 1) := by decide +kernel
theorem dX2_step_32 : decode cX2_step 32 = .ok (.putfield 27, 3) := by decide +kernel
theorem dX2_step_35 : decode cX2_step 35 = .ok (.goto (-35), 3) := by decide +kernel
theorem dX2_step_38 : decode cX2_step 38 = .ok (.aload_n 0, 1) := by decide +kernel
theorem dX2_step_39 : decode cX2_step 39 = .ok (.aload_n 0, 1) := by decide +kernel
theorem dX2_step_40 : decode cX2_step 40 = .ok (.getfield 27, 3) := by decide +kernel
theorem dX2_step_43 : decode cX2_step 43 = .ok (.putfield 54, 3) := by decide +kernel
theorem dX2_step_46 : decode cX2_step 46 = .ok (.aload_n 0, 1) := by decide +kernel
theorem dX2_step_47 : decode cX2_step 47 = .ok (.iconst 4, 1) := by decide +kernel
theorem dX2_step_48 : decode cX2_step 48 = .ok (.putfield 40, 3) := by decide +kernel
theorem dX2_step_51 : decode cX2_step 51 = .ok (.aload_n 0, 1) := by decide +kernel
theorem dX2_step_52 : decode cX2_step 52 = .ok (.iconst 0, 1) := by decide +kernel
theorem dX2_step_53 : decode cX2_step 53 = .ok (.putfield 43, 3) := by decide +kernel
theorem dX2_step_56 : decode cX2_step 56 = .ok (.aload_n 0, 1) := by decide +kernel
theorem dX2_step_57 : decode cX2_step 57 = .ok (.getfield 54, 3) := by decide +kernel
theorem dX2_step_60 : decode cX2_step 60 = .ok (.aload_n 0, 1) := by decide +kernel
theorem dX2_step_61 : decode cX2_step 61 = .ok (.getfield 18, 3) := by decide +kernel
theorem dX2_step_64 : decode cX2_step 64 = .ok (.if_icmp .lt 11, 3) := by decide +kernel
theorem dX2_step_67 : decode cX2_step 67 = .ok (.aload_n 0, 1) := by decide +kernel
theorem dX2_step_68 : decode cX2_step 68 = .ok (.iconst 0, 1) := by decide +kernel
theorem dX2_step_69 : decode cX2_step 69 = .ok (.putfield 40, 3) := by decide +kernel
theorem dX2_step_72 : decode cX2_step 72 = .ok (.goto 84, 3) := by decide +kernel
theorem dX2_step_75 : decode cX2_step 75 = .ok (.aload_n 0, 1) := by decide +kernel
theorem dX2_step_76 : decode cX2_step 76 = .ok (.getfield 9, 3) := by decide +kernel
theorem dX2_step_79 : decode cX2_step 79 = .ok (.aload_n 0, 1) := by decide +kernel
theorem dX2_step_80 : decode cX2_step 80 = .ok (.getfield 54, 3) := by decide +kernel
theorem dX2_step_83 : decode cX2_step 83 = .ok (.iaload, 1) := by decide +kernel
theorem dX2_step_84 : decode cX2_step 84 = .ok (.bipush 97, 2) := by decide +kernel
theorem dX2_step_86 : decode cX2_step 86 = .ok (.bipush 122, 2) := by decide +kernel
theorem dX2_step_88 : decode cX2_step 88 = .ok (.invokestatic 71, 3) := by decide +kernel
theorem dX2_step_91 : decode cX2_step 91 = .ok (.ifCond .eq 10, 3) := by decide +kernel
theorem dX2_step_94 : decode cX2_step 94 = .ok (.aload_n 0, 1) := by decide +kernel
theorem dX2_step_95 : decode cX2_step 95 = .ok (.invokevirtual 90, 3) := by decide +kernel
theorem dX2_step_98 : decode cX2_step 98 = .ok (.goto 58, 3) := by decide +kernel
theorem dX2_step_101 : decode cX2_step 101 = .ok (.aload_n 0, 1) := by decide +kernel
theorem dX2_step_102 : decode cX2_step 102 = .ok (.getfield 9, 3) := by decide +kernel
theorem dX2_step_105 : decode cX2_step 105 = .ok (.aload_n 0, 1) := by decide +kernel
theorem dX2_step_106 : decode cX2_step 106 = .ok (.getfield 54, 3) := by decide +kernel
theorem dX2_step_109 : decode cX2_step 109 = .ok (.iaload, 1) := by decide +kernel
theorem dX2_step_110 : decode cX2_step 110 = .ok (.bipush 48, 2) := by decide +kernel
theorem dX2_step_112 : decode cX2_step 112 = .ok (.bipush 57, 2) := by decide +kernel
theorem dX2_step_114 : decode cX2_step 114 = .ok (.invokestatic 71, 3) := by decide +kernel
theorem dX2_step_117 : decode cX2_step 117 = .ok (.ifCond .eq 10, 3) := by decide +kernel
theorem dX2_step_120 : decode cX2_step 120 = .ok (.aload_n 0, 1) := by decide +kernel
theorem dX2_step_121 : decode cX2_step 121 = .ok (.invokevirtual 93, 3) := by decide +kernel
theorem dX2_step_124 : decode cX2_step 124 = .ok (.goto 32, 3) := by decide +kernel
theorem dX2_step_127 : decode cX2_step 127 = .ok (.aload_n 0, 1) := by decide +kernel
theorem dX2_step_128 : decode cX2_step 128 = .ok (.getfield 9, 3) := by decide +kernel
theorem dX2_step_131 : decode cX2_step 131 = .ok (.aload_n 0, 1) := by decide +kernel
theorem dX2_step_132 : decode cX2_step 132 = .ok (.getfield 54, 3) := by decide +kernel
theorem dX2_step_135 : decode cX2_step 135 = .ok (.iaload, 1) := by decide +kernel
theorem dX2_step_136 : decode cX2_step 136 = .ok (.bipush 59, 2) := by decide +kernel
theorem dX2_step_138 : decode cX2_step 138 = .ok (.if_icmp .ne 18, 3) := by decide +kernel
theorem dX2_step_141 : decode cX2_step 141 = .ok (.aload_n 0, 1) := by decide +kernel
theorem dX2_step_142 : decode cX2_step 142 = .ok (.iconst 3, 1) := by decide +kernel
theorem dX2_step_143 : decode cX2_step 143 = .ok (.putfield 40, 3) := by decide +kernel
theorem dX2_step_146 : decode cX2_step 146 = .ok (.aload_n 0, 1) := by decide +kernel
theorem dX2_step_147 : decode cX2_step 147 = .ok (.dup, 1) := by decide +kernel
theorem dX2_step_148 : decode cX2_step 148 = .ok (.getfield 27, 3) := by decide +kernel
theorem dX2_step_151 : decode cX2_step 151 = .ok (.iconst 1, 1) := by decide +kernel
theorem dX2_step_152 : decode cX2_step 152 = .ok (.iadd, 1) := by decide +kernel
theorem dX2_step_153 : decode cX2_step 153 = .ok (.putfield 27, 3) := by decide +kernel
theorem dX2_step_156 : decode cX2_step 156 = .ok (.return_, 1) := by decide +kernel
theorem dX2_readLetters_0 : decode cX2_readLetters 0 = .ok (.aload_n 0, 1) := by decide +kernel
theorem dX2_readLetters_1 : decode cX2_readLetters 1 = .ok (.aload_n 0, 1) := by decide +kernel
theorem dX2_readLetters_2 : decode cX2_readLetters 2 = .ok (.getfield 9, 3) := by decide +kernel
theorem dX2_readLetters_5 : decode cX2_readLetters 5 = .ok (.aload_n 0, 1) := by decide +kernel
theorem dX2_readLetters_6 : decode cX2_readLetters 6 = .ok (.getfield 54, 3) := by decide +kernel
theorem dX2_readLetters_9 : decode cX2_readLetters 9 = .ok (.iaload, 1) := by decide +kernel
theorem dX2_readLetters_10 : decode cX2_readLetters 10 = .ok (.putfield 43, 3) := by decide +kernel
theorem dX2_readLetters_13 : decode cX2_readLetters 13 = .ok (.aload_n 0, 1) := by decide +kernel
theorem dX2_readLetters_14 : decode cX2_readLetters 14 = .ok (.getfield 27, 3) := by decide +kernel
theorem dX2_readLetters_17 : decode cX2_readLetters 17 = .ok (.aload_n 0, 1) := by decide +kernel
theorem dX2_readLetters_18 : decode cX2_readLetters 18 = .ok (.getfield 18, 3) := by decide +kernel
theorem dX2_readLetters_21 : decode cX2_readLetters 21 = .ok (.if_icmp .ge 35, 3) := by decide +kernel
theorem dX2_readLetters_24 : decode cX2_readLetters 24 = .ok (.aload_n 0, 1) := by decide +kernel
theorem dX2_readLetters_25 : decode cX2_readLetters 25 = .ok (.getfield 9, 3) := by decide +kernel
theorem dX2_readLetters_28 : decode cX2_readLetters 28 = .ok (.aload_n 0, 1) := by decide +kernel
theorem dX2_readLetters_29 : decode cX2_readLetters 29 = .ok (.getfield 27, 3) := by decide +kernel
theorem dX2_readLetters_32 : decode cX2_readLetters 32 = .ok (.iaload, 1) := by decide +kernel
theorem dX2_readLetters_33 : decode cX2_readLetters 33 = .ok (.bipush 97, 2) := by decide +kernel
theorem dX2_readLetters_35 : decode cX2_readLetters 35 = .ok (.bipush 122, 2) := by decide +kernel
theorem dX2_readLetters_37 : decode cX2_readLetters 37 = .ok (.invokestatic 71, 3) := by decide +kernel
theorem dX2_readLetters_40 : decode cX2_readLetters 40 = .ok (.ifCond .eq 16, 3) := by decide +kernel
theorem dX2_readLetters_43 : decode cX2_readLetters 43 = .ok (.aload_n 0, 1) := by decide +kernel
theorem dX2_readLetters_44 : decode cX2_readLetters 44 = .ok (.dup, 1) := by decide +kernel
theorem dX2_readLetters_45 : decode cX2_readLetters 45 = .ok (.getfield 27, 3) := by decide +kernel
theorem dX2_readLetters_48 : decode cX2_readLetters 48 = .ok (.iconst 1, 1) := by decide +kernel
theorem dX2_readLetters_49 : decode cX2_readLetters 49 = .ok (.iadd, 1) := by decide +kernel
theorem dX2_readLetters_50 : decode cX2_readLetters 50 = .ok (.putfield 27, 3) := by decide +kernel
theorem dX2_readLetters_53 : decode cX2_readLetters 53 = .ok (.goto (-40), 3) := by decide +kernel
theorem dX2_readLetters_56 : decode cX2_readLetters 56 = .ok (.aload_n 0, 1) := by decide +kernel
theorem dX2_readLetters_57 : decode cX2_readLetters 57 = .ok (.aload_n 0, 1) := by decide +kernel
theorem dX2_readLetters_58 : decode cX2_readLetters 58 = .ok (.getfield 27, 3) := by decide +kernel
theorem dX2_readLetters_61 : decode cX2_readLetters 61 = .ok (.aload_n 0, 1) := by decide +kernel
theorem dX2_readLetters_62 : decode cX2_readLetters 62 = .ok (.getfield 54, 3) := by decide +kernel
theorem dX2_readLetters_65 : decode cX2_readLetters 65 = .ok (.isub, 1) := by decide +kernel
theorem dX2_readLetters_66 : decode cX2_readLetters 66 = .ok (.iconst 1, 1) := by decide +kernel
theorem dX2_readLetters_67 : decode cX2_readLetters 67 = .ok (.if_icmp .ne 7, 3) := by decide +kernel
theorem dX2_readLetters_70 : decode cX2_readLetters 70 = .ok (.iconst 1, 1) := by decide +kernel
theorem dX2_readLetters_71 : decode cX2_readLetters 71 = .ok (.goto 4, 3) := by decide +kernel
theorem dX2_readLetters_74 : decode cX2_readLetters 74 = .ok (.iconst 4, 1) := by decide +kernel
theorem dX2_readLetters_75 : decode cX2_readLetters 75 = .ok (.putfield 40, 3) := by decide +kernel
theorem dX2_readLetters_78 : decode cX2_readLetters 78 = .ok (.return_, 1) := by decide +kernel
theorem dX2_readDigits_0 : decode cX2_readDigits 0 = .ok (.aload_n 0, 1) := by decide +kernel
theorem dX2_readDigits_1 : decode cX2_readDigits 1 = .ok (.getfield 27, 3) := by decide +kernel
theorem dX2_readDigits_4 : decode cX2_readDigits 4 = .ok (.aload_n 0, 1) := by decide +kernel
theorem dX2_readDigits_5 : decode cX2_readDigits 5 = .ok (.getfield 18, 3) := by decide +kernel
theorem dX2_readDigits_8 : decode cX2_readDigits 8 = .ok (.if_icmp .ge 64, 3) := by decide +kernel
theorem dX2_readDigits_11 : decode cX2_readDigits 11 = .ok (.aload_n 0, 1) := by decide +kernel
theorem dX2_readDigits_12 : decode cX2_readDigits 12 = .ok (.getfield 9, 3) := by decide +kernel
theorem dX2_readDigits_15 : decode cX2_readDigits 15 = .ok (.aload_n 0, 1) := by decide +kernel
theorem dX2_readDigits_16 : decode cX2_readDigits 16 = .ok (.getfield 27, 3) := by decide +kernel
theorem dX2_readDigits_19 : decode cX2_readDigits 19 = .ok (.iaload, 1) := by decide +kernel
theorem dX2_readDigits_20 : decode cX2_readDigits 20 = .ok (.bipush 48, 2) := by decide +kernel
theorem dX2_readDigits_22 : decode cX2_readDigits 22 = .ok (.bipush 57, 2) := by decide +kernel
theorem dX2_readDigits_24 : decode cX2_readDigits 24 = .ok (.invokestatic 71, 3) := by decide +kernel
theorem dX2_readDigits_27 : decode cX2_readDigits 27 = .ok (.ifCond .eq 45, 3) := by decide +kernel
theorem dX2_readDigits_30 : decode cX2_readDigits 30 = .ok (.aload_n 0, 1) := by decide +kernel
theorem dX2_readDigits_31 : decode cX2_readDigits 31 = .ok (.aload_n 0, 1) := by decide +kernel
theorem dX2_readDigits_32 : decode cX2_readDigits 32 = .ok (.getfield 43, 3) := by decide +kernel
theorem dX2_readDigits_35 : decode cX2_readDigits 35 = .ok (.bipush 10, 2) := by decide +kernel
theorem dX2_readDigits_37 : decode cX2_readDigits 37 = .ok (.imul, 1) := by decide +kernel
theorem dX2_readDigits_38 : decode cX2_readDigits 38 = .ok (.aload_n 0, 1) := by decide +kernel
theorem dX2_readDigits_39 : decode cX2_readDigits 39 = .ok (.getfield 9, 3) := by decide +kernel
theorem dX2_readDigits_42 : decode cX2_readDigits 42 = .ok (.aload_n 0, 1) := by decide +kernel
theorem dX2_readDigits_43 : decode cX2_readDigits 43 = .ok (.getfield 27, 3) := by decide +kernel
theorem dX2_readDigits_46 : decode cX2_readDigits 46 = .ok (.iaload, 1) := by decide +kernel
theorem dX2_readDigits_47 : decode cX2_readDigits 47 = .ok (.iadd, 1) := by decide +kernel
theorem dX2_readDigits_48 : decode cX2_readDigits 48 = .ok (.bipush 48, 2) := by decide +kernel
theorem dX2_readDigits_50 : decode cX2_readDigits 50 = .ok (.isub, 1) := by decide +kernel
theorem dX2_readDigits_51 : decode cX2_readDigits 51 = .ok (.bipush 100, 2) := by decide +kernel
theorem dX2_readDigits_53 : decode cX2_readDigits 53 = .ok (.invokestatic 96, 3) := by decide +kernel
theorem dX2_readDigits_56 : decode cX2_readDigits 56 = .ok (.putfield 43, 3) := by decide +kernel
theorem dX2_readDigits_59 : decode cX2_readDigits 59 = .ok (.aload_n 0, 1) := by decide +kernel
theorem dX2_readDigits_60 : decode cX2_readDigits 60 = .ok (.dup, 1) := by decide +kernel
theorem dX2_readDigits_61 : decode cX2_readDigits 61 = .ok (.getfield 27, 3) := by decide +kernel
theorem dX2_readDigits_64 : decode cX2_readDigits 64 = .ok (.iconst 1, 1) := by decide +kernel
theorem dX2_readDigits_65 : decode cX2_readDigits 65 = .ok (.iadd, 1) := by decide +kernel
theorem dX2_readDigits_66 : decode cX2_readDigits 66 = .ok (.putfield 27, 3) := by decide +kernel
theorem dX2_readDigits_69 : decode cX2_readDigits 69 = .ok (.goto (-69), 3) := by decide +kernel
theorem dX2_readDigits_72 : decode cX2_readDigits 72 = .ok (.aload_n 0, 1) := by decide +kernel
theorem dX2_readDigits_73 : decode cX2_readDigits 73 = .ok (.getfield 9, 3) := by decide +kernel
theorem dX2_readDigits_76 : decode cX2_readDigits 76 = .ok (.aload_n 0, 1) := by decide +kernel
theorem dX2_readDigits_77 : decode cX2_readDigits 77 = .ok (.getfield 54, 3) := by decide +kernel
theorem dX2_readDigits_80 : decode cX2_readDigits 80 = .ok (.iaload, 1) := by decide +kernel
theorem dX2_readDigits_81 : decode cX2_readDigits 81 = .ok (.bipush 48, 2) := by decide +kernel
theorem dX2_readDigits_83 : decode cX2_readDigits 83 = .ok (.if_icmp .ne 20, 3) := by decide +kernel
theorem dX2_readDigits_86 : decode cX2_readDigits 86 = .ok (.aload_n 0, 1) := by decide +kernel
theorem dX2_readDigits_87 : decode cX2_readDigits 87 = .ok (.getfield 27, 3) := by decide +kernel
theorem dX2_readDigits_90 : decode cX2_readDigits 90 = .ok (.aload_n 0, 1) := by decide +kernel
theorem dX2_readDigits_91 : decode cX2_readDigits 91 = .ok (.getfield 54, 3) := by decide +kernel
theorem dX2_readDigits_94 : decode cX2_readDigits 94 = .ok (.isub, 1) := by decide +kernel
theorem dX2_readDigits_95 : decode cX2_readDigits 95 = .ok (.iconst 1, 1) := by decide +kernel
theorem dX2_readDigits_96 : decode cX2_readDigits 96 = .ok (.if_icmp .le 7, 3) := by decide +kernel
theorem dX2_readDigits_99 : decode cX2_readDigits 99 = .ok (.iconst 1, 1) := by decide +kernel
theorem dX2_readDigits_100 : decode cX2_readDigits 100 = .ok (.goto 4, 3) := by decide +kernel
theorem dX2_readDigits_103 : decode cX2_readDigits 103 = .ok (.iconst 0, 1) := by decide +kernel
theorem dX2_readDigits_104 : decode cX2_readDigits 104 = .ok (.istore_n 1, 1) := by decide +kernel
theorem dX2_readDigits_105 : decode cX2_readDigits 105 = .ok (.aload_n 0, 1) := by decide +kernel
theorem dX2_readDigits_106 : decode cX2_readDigits 106 = .ok (.iload_n 1, 1) := by decide +kernel
theorem dX2_readDigits_107 : decode cX2_readDigits 107 = .ok (.ifCond .ne 12, 3) := by decide +kernel
theorem dX2_readDigits_110 : decode cX2_readDigits 110 = .ok (.aload_n 0, 1) := by decide +kernel
theorem dX2_readDigits_111 : decode cX2_readDigits 111 = .ok (.getfield 43, 3) := by decide +kernel
theorem dX2_readDigits_114 : decode cX2_readDigits 114 = .ok (.bipush 99, 2) := by decide +kernel
theorem dX2_readDigits_116 : decode cX2_readDigits 116 = .ok (.if_icmp .le 7, 3) := by decide +kernel
theorem dX2_readDigits_119 : decode cX2_readDigits 119 = .ok (.iconst 4, 1) := by decide +kernel
theorem dX2_readDigits_120 : decode cX2_readDigits 120 = .ok (.goto 4, 3) := by decide +kernel
theorem dX2_readDigits_123 : decode cX2_readDigits 123 = .ok (.iconst 2, 1) := by decide +kernel
theorem dX2_readDigits_124 : decode cX2_readDigits 124 = .ok (.putfield 40, 3) := by decide +kernel
theorem dX2_readDigits_127 : decode cX2_readDigits 127 = .ok (.return_, 1) := by decide +kernel
theorem dX3_init_0 : decode cX3_init 0 = .ok (.aload_n 0, 1) := by decide +kernel
theorem dX3_init_1 : decode cX3_init 1 = .ok (.invokespecial 3, 3) := by decide +kernel
theorem dX3_init_4 : decode cX3_init 4 = .ok (.aload_n 0, 1) := by decide +kernel
theorem dX3_init_5 : decode cX3_init 5 = .ok (.bipush 6, 2) := by decide +kernel
theorem dX3_init_7 : decode cX3_init 7 = .ok (.newarray .int, 2) := by decide +kernel
theorem dX3_init_9 : decode cX3_init 9 = .ok (.putfield 9, 3) := by decide +kernel
theorem dX3_init_12 : decode cX3_init 12 = .ok (.aload_n 0, 1) := by decide +kernel
theorem dX3_init_13 : decode cX3_init 13 = .ok (.bipush 50, 2) := by decide +kernel
theorem dX3_init_15 : decode cX3_init 15 = .ok (.newarray .int, 2) := by decide +kernel
theorem dX3_init_17 : decode cX3_init 17 = .ok (.putfield 15, 3) := by decide +kernel
theorem dX3_init_20 : decode cX3_init 20 = .ok (.aload_n 0, 1) := by decide +kernel
theorem dX3_init_21 : decode cX3_init 21 = .ok (.iconst 1, 1) := by decide +kernel
theorem dX3_init_22 : decode cX3_init 22 = .ok (.putfield 18, 3) := by decide +kernel
theorem dX3_init_25 : decode cX3_init 25 = .ok (.return_, 1) := by decide +kernel
theorem dX3_erase_0 : decode cX3_erase 0 = .ok (.aload_n 0, 1) := by decide +kernel
theorem dX3_erase_1 : decode cX3_erase 1 = .ok (.iconst 0, 1) := by decide +kernel
theorem dX3_erase_2 : decode cX3_erase 2 = .ok (.putfield 22, 3) := by decide +kernel
theorem dX3_erase_5 : decode cX3_erase 5 = .ok (.aload_n 0, 1) := by decide +kernel
theorem dX3_erase_6 : decode cX3_erase 6 = .ok (.iconst 0, 1) := by decide +kernel
theorem dX3_erase_7 : decode cX3_erase 7 = .ok (.putfield 25, 3) := by decide +kernel
theorem dX3_erase_10 : decode cX3_erase 10 = .ok (.aload_n 0, 1) := by decide +kernel
theorem dX3_erase_11 : decode cX3_erase 11 = .ok (.iconst 1, 1) := by decide +kernel
theorem dX3_erase_12 : decode cX3_erase 12 = .ok (.putfield 18, 3) := by decide +kernel
theorem dX3_erase_15 : decode cX3_erase 15 = .ok (.return_, 1) := by decide +kernel
theorem dX3_become_0 : decode cX3_become 0 = .ok (.aload_n 1, 1) := by decide +kernel
theorem dX3_become_1 : decode cX3_become 1 = .ok (.getfield 9, 3) := by decide +kernel
theorem dX3_become_4 : decode cX3_become 4 = .ok (.iconst 0, 1) := by decide +kernel
theorem dX3_become_5 : decode cX3_become 5 = .ok (.aload_n 0, 1) := by decide +kernel
theorem dX3_become_6 : decode cX3_become 6 = .ok (.getfield 9, 3) := by decide +kernel
theorem dX3_become_9 : decode cX3_become 9 = .ok (.iconst 0, 1) := by decide +kernel
theorem dX3_become_10 : decode cX3_become 10 = .ok (.aload_n 0, 1) := by decide +kernel
theorem dX3_become_11 : decode cX3_become 11 = .ok (.getfield 9, 3) := by decide +kernel
theorem dX3_become_14 : decode cX3_become 14 = .ok (.arraylength, 1) := by decide +kernel
theorem dX3_become_15 : decode cX3_become 15 = .ok (.invokestatic 28, 3) := by decide +kernel
theorem dX3_become_18 : decode cX3_become 18 = .ok (.aload_n 1, 1) := by decide +kernel
theorem dX3_become_19 : decode cX3_become 19 = .ok (.getfield 15, 3) := by decide +kernel
theorem dX3_become_22 : decode cX3_become 22 = .ok (.iconst 0, 1) := by decide +kernel
theorem dX3_become_23 : decode cX3_become 23 = .ok (.aload_n 0, 1) := by decide +kernel
theorem dX3_become_24 : decode cX3_become 24 = .ok (.getfield 15, 3) := by decide +kernel
theorem dX3_become_27 : decode cX3_become 27 = .ok (.iconst 0, 1) := by decide +kernel
theorem dX3_become_28 : decode cX3_become 28 = .ok (.aload_n 0, 1) := by decide +kernel
theorem dX3_become_29 : decode cX3_become 29 = .ok (.getfield 15, 3) := by decide +kernel
theorem dX3_become_32 : decode cX3_become 32 = .ok (.arraylength, 1) := by decide +kernel
theorem dX3_become_33 : decode cX3_become 33 = .ok (.invokestatic 28, 3) := by decide +kernel
theorem dX3_become_36 : decode cX3_become 36 = .ok (.aload_n 0, 1) := by decide +kernel
theorem dX3_become_37 : decode cX3_become 37 = .ok (.aload_n 1, 1) := by decide +kernel
theorem dX3_become_38 : decode cX3_become 38 = .ok (.getfield 22, 3) := by decide +kernel
theorem dX3_become_41 : decode cX3_become 41 = .ok (.putfield 22, 3) := by decide +kernel
theorem dX3_become_44 : decode cX3_become 44 = .ok (.aload_n 0, 1) := by decide +kernel
theorem dX3_become_45 : decode cX3_become 45 = .ok (.aload_n 1, 1) := by decide +kernel
theorem dX3_become_46 : decode cX3_become 46 = .ok (.getfield 25, 3) := by decide +kernel
theorem dX3_become_49 : decode cX3_become 49 = .ok (.putfield 25, 3) := by decide +kernel
theorem dX3_become_52 : decode cX3_become 52 = .ok (.aload_n 0, 1) := by decide +kernel
theorem dX3_become_53 : decode cX3_become 53 = .ok (.aload_n 1, 1) := by decide +kernel
theorem dX3_become_54 : decode cX3_become 54 = .ok (.getfield 18, 3) := by decide +kernel
theorem dX3_become_57 : decode cX3_become 57 = .ok (.putfield 18, 3) := by decide +kernel
theorem dX3_become_60 : decode cX3_become 60 = .ok (.return_, 1) := by decide +kernel
theorem dX3_addLine_0 : decode cX3_addLine 0 = .ok (.aload_n 0, 1) := by decide +kernel
theorem dX3_addLine_1 : decode cX3_addLine 1 = .ok (.getfield 22, 3) := by decide +kernel
theorem dX3_addLine_4 : decode cX3_addLine 4 = .ok (.bipush 6, 2) := by decide +kernel
theorem dX3_addLine_6 : decode cX3_addLine 6 = .ok (.if_icmp .ge 23, 3) := by decide +kernel
theorem dX3_addLine_9 : decode cX3_addLine 9 = .ok (.aload_n 0, 1) := by decide +kernel
theorem dX3_addLine_10 : decode cX3_addLine 10 = .ok (.getfield 9, 3) := by decide +kernel
theorem dX3_addLine_13 : decode cX3_addLine 13 = .ok (.aload_n 0, 1) := by decide +kernel
theorem dX3_addLine_14 : decode cX3_addLine 14 = .ok (.getfield 22, 3) := by decide +kernel
theorem dX3_addLine_17 : decode cX3_addLine 17 = .ok (.iload_n 1, 1) := by decide +kernel
theorem dX3_addLine_18 : decode cX3_addLine 18 = .ok (.iastore, 1) := by decide +kernel
theorem dX3_addLine_19 : decode cX3_addLine 19 = .ok (.aload_n 0, 1) := by decide +kernel
theorem dX3_addLine_20 : decode cX3_addLine 20 = .ok (.dup, 1) := by decide +kernel
theorem dX3_addLine_21 : decode cX3_addLine 21 = .ok (.getfield 22, 3) := by decide +kernel
theorem dX3_addLine_24 : decode cX3_addLine 24 = .ok (.iconst 1, 1) := by decide +kernel
theorem dX3_addLine_25 : decode cX3_addLine 25 = .ok (.iadd, 1) := by decide +kernel
theorem dX3_addLine_26 : decode cX3_addLine 26 = .ok (.putfield 22, 3) := by decide +kernel
theorem dX3_addLine_29 : decode cX3_addLine 29 = .ok (.return_, 1) := by decide +kernel
theorem dX3_addPiece_0 : decode cX3_addPiece 0 = .ok (.aload_n 0, 1) := by decide +kernel
theorem dX3_addPiece_1 : decode cX3_addPiece 1 = .ok (.getfield 25, 3) := by decide +kernel
theorem dX3_addPiece_4 : decode cX3_addPiece 4 = .ok (.bipush 10, 2) := by decide +kernel
theorem dX3_addPiece_6 : decode cX3_addPiece 6 = .ok (.if_icmp .ge 35, 3) := by decide +kernel
theorem dX3_addPiece_9 : decode cX3_addPiece 9 = .ok (.aload_n 1, 1) := by decide +kernel
theorem dX3_addPiece_10 : decode cX3_addPiece 10 = .ok (.arraylength, 1) := by decide +kernel
theorem dX3_addPiece_11 : decode cX3_addPiece 11 = .ok (.iconst 5, 1) := by decide +kernel
theorem dX3_addPiece_12 : decode cX3_addPiece 12 = .ok (.if_icmp .lt 29, 3) := by decide +kernel
theorem dX3_addPiece_15 : decode cX3_addPiece 15 = .ok (.aload_n 1, 1) := by decide +kernel
theorem dX3_addPiece_16 : decode cX3_addPiece 16 = .ok (.iconst 0, 1) := by decide +kernel
theorem dX3_addPiece_17 : decode cX3_addPiece 17 = .ok (.aload_n 0, 1) := by decide +kernel
theorem dX3_addPiece_18 : decode cX3_addPiece 18 = .ok (.getfield 15, 3) := by decide +kernel
theorem dX3_addPiece_21 : decode cX3_addPiece 21 = .ok (.aload_n 0, 1) := by decide +kernel
theorem dX3_addPiece_22 : decode cX3_addPiece 22 = .ok (.getfield 25, 3) := by decide +kernel
theorem dX3_addPiece_25 : decode cX3_addPiece 25 = .ok (.iconst 5, 1) := by decide +kernel
theorem dX3_addPiece_26 : decode cX3_addPiece 26 = .ok (.imul, 1) := by decide +kernel
theorem dX3_addPiece_27 : decode cX3_addPiece 27 = .ok (.iconst 5, 1) := by decide +kernel
theorem dX3_addPiece_28 : decode cX3_addPiece 28 = .ok (.invokestatic 28, 3) := by decide +kernel
theorem dX3_addPiece_31 : decode cX3_addPiece 31 = .ok (.aload_n 0, 1) := by decide +kernel
theorem dX3_addPiece_32 : decode cX3_addPiece 32 = .ok (.dup, 1) := by decide +kernel
theorem dX3_addPiece_33 : decode cX3_addPiece 33 = .ok (.getfield 25, 3) := by decide +kernel
theorem dX3_addPiece_36 : decode cX3_addPiece 36 = .ok (.iconst 1, 1) := by decide +kernel
theorem dX3_addPiece_37 : decode cX3_addPiece 37 = .ok (.iadd, 1) := by decide +kernel
theorem dX3_addPiece_38 : decode cX3_addPiece 38 = .ok (.putfield 25, 3) := by decide +kernel
theorem dX3_addPiece_41 : decode cX3_addPiece 41 = .ok (.return_, 1) := by decide +kernel
theorem dX3_hasLine_0 : decode cX3_hasLine 0 = .ok (.iload_n 1, 1) := by decide +kernel
theorem dX3_hasLine_1 : decode cX3_hasLine 1 = .ok (.iconst 0, 1) := by decide +kernel
theorem dX3_hasLine_2 : decode cX3_hasLine 2 = .ok (.aload_n 0, 1) := by decide +kernel
theorem dX3_hasLine_3 : decode cX3_hasLine 3 = .ok (.getfield 22, 3) := by decide +kernel
theorem dX3_hasLine_6 : decode cX3_hasLine 6 = .ok (.iconst 1, 1) := by decide +kernel
theorem dX3_hasLine_7 : decode cX3_hasLine 7 = .ok (.isub, 1) := by decide +kernel
theorem dX3_hasLine_8 : decode cX3_hasLine 8 = .ok (.invokestatic 34, 3) := by decide +kernel
theorem dX3_hasLine_11 : decode cX3_hasLine 11 = .ok (.ireturn, 1) := by decide +kernel
theorem dX3_hasPiece_0 : decode cX3_hasPiece 0 = .ok (.iload_n 1, 1) := by decide +kernel
theorem dX3_hasPiece_1 : decode cX3_hasPiece 1 = .ok (.iconst 0, 1) := by decide +kernel
theorem dX3_hasPiece_2 : decode cX3_hasPiece 2 = .ok (.aload_n 0, 1) := by decide +kernel
theorem dX3_hasPiece_3 : decode cX3_hasPiece 3 = .ok (.getfield 25, 3) := by decide +kernel
theorem dX3_hasPiece_6 : decode cX3_hasPiece 6 = .ok (.iconst 1, 1) := by decide +kernel
theorem dX3_hasPiece_7 : decode cX3_hasPiece 7 = .ok (.isub, 1) := by decide +kernel
theorem dX3_hasPiece_8 : decode cX3_hasPiece 8 = .ok (.invokestatic 34, 3) := by decide +kernel
theorem dX3_hasPiece_11 : decode cX3_hasPiece 11 = .ok (.ireturn, 1) := by decide +kernel
theorem dX3_wideOf_0 : decode cX3_wideOf 0 = .ok (.aload_n 0, 1) := by decide +kernel
theorem dX3_wideOf_1 : decode cX3_wideOf 1 = .ok (.iload_n 1, 1) := by decide +kernel
theorem dX3_wideOf_2 : decode cX3_wideOf 2 = .ok (.invokevirtual 38, 3) := by decide +kernel
theorem dX3_wideOf_5 : decode cX3_wideOf 5 = .ok (.ifCond .eq 12, 3) := by decide +kernel
theorem dX3_wideOf_8 : decode cX3_wideOf 8 = .ok (.aload_n 0, 1) := by decide +kernel
theorem dX3_wideOf_9 : decode cX3_wideOf 9 = .ok (.getfield 9, 3) := by decide +kernel
theorem dX3_wideOf_12 : decode cX3_wideOf 12 = .ok (.iload_n 1, 1) := by decide +kernel
theorem dX3_wideOf_13 : decode cX3_wideOf 13 = .ok (.iaload, 1) := by decide +kernel
theorem dX3_wideOf_14 : decode cX3_wideOf 14 = .ok (.goto 4, 3) := by decide +kernel
theorem dX3_wideOf_17 : decode cX3_wideOf 17 = .ok (.iconst 0, 1) := by decide +kernel
theorem dX3_wideOf_18 : decode cX3_wideOf 18 = .ok (.ireturn, 1) := by decide +kernel
theorem dX3_of_0 : decode cX3_of 0 = .ok (.aload_n 0, 1) := by decide +kernel
theorem dX3_of_1 : decode cX3_of 1 = .ok (.iload_n 1, 1) := by decide +kernel
theorem dX3_of_2 : decode cX3_of 2 = .ok (.invokevirtual 42, 3) := by decide +kernel
theorem dX3_of_5 : decode cX3_of 5 = .ok (.ifCond .eq 25, 3) := by decide +kernel
theorem dX3_of_8 : decode cX3_of 8 = .ok (.iload_n 2, 1) := by decide +kernel
theorem dX3_of_9 : decode cX3_of 9 = .ok (.iconst 0, 1) := by decide +kernel
theorem dX3_of_10 : decode cX3_of 10 = .ok (.iconst 4, 1) := by decide +kernel
theorem dX3_of_11 : decode cX3_of 11 = .ok (.invokestatic 34, 3) := by decide +kernel
theorem dX3_of_14 : decode cX3_of 14 = .ok (.ifCond .eq 16, 3) := by decide +kernel
theorem dX3_of_17 : decode cX3_of 17 = .ok (.aload_n 0, 1) := by decide +kernel
theorem dX3_of_18 : decode cX3_of 18 = .ok (.getfield 15, 3) := by decide +kernel
theorem dX3_of_21 : decode cX3_of 21 = .ok (.iload_n 1, 1) := by decide +kernel
theorem dX3_of_22 : decode cX3_of 22 = .ok (.iconst 5, 1) := by decide +kernel
theorem dX3_of_23 : decode cX3_of 23 = .ok (.imul, 1) := by decide +kernel
theorem dX3_of_24 : decode cX3_of 24 = .ok (.iload_n 2, 1) := by decide +kernel
theorem dX3_of_25 : decode cX3_of 25 = .ok (.iadd, 1) := by decide +kernel
theorem dX3_of_26 : decode cX3_of 26 = .ok (.iaload, 1) := by decide +kernel
theorem dX3_of_27 : decode cX3_of 27 = .ok (.goto 4, 3) := by decide +kernel
theorem dX3_of_30 : decode cX3_of 30 = .ok (.iconst 0, 1) := by decide +kernel
theorem dX3_of_31 : decode cX3_of 31 = .ok (.ireturn, 1) := by decide +kernel
theorem dX3_needsAny_0 : decode cX3_needsAny 0 = .ok (.aload_n 0, 1) := by decide +kernel
theorem dX3_needsAny_1 : decode cX3_needsAny 1 = .ok (.iload_n 1, 1) := by decide +kernel
theorem dX3_needsAny_2 : decode cX3_needsAny 2 = .ok (.iconst 2, 1) := by decide +kernel
theorem dX3_needsAny_3 : decode cX3_needsAny 3 = .ok (.invokevirtual 45, 3) := by decide +kernel
theorem dX3_needsAny_6 : decode cX3_needsAny 6 = .ok (.bipush 99, 2) := by decide +kernel
theorem dX3_needsAny_8 : decode cX3_needsAny 8 = .ok (.if_icmp .eq 7, 3) := by decide +kernel
theorem dX3_needsAny_11 : decode cX3_needsAny 11 = .ok (.iconst 1, 1) := by decide +kernel
theorem dX3_needsAny_12 : decode cX3_needsAny 12 = .ok (.goto 4, 3) := by decide +kernel
theorem dX3_needsAny_15 : decode cX3_needsAny 15 = .ok (.iconst 0, 1) := by decide +kernel
theorem dX3_needsAny_16 : decode cX3_needsAny 16 = .ok (.ireturn, 1) := by decide +kernel
theorem dX3_all_0 : decode cX3_all 0 = .ok (.iconst 1, 1) := by decide +kernel
theorem dX3_all_1 : decode cX3_all 1 = .ok (.aload_n 0, 1) := by decide +kernel
theorem dX3_all_2 : decode cX3_all 2 = .ok (.getfield 25, 3) := by decide +kernel
theorem dX3_all_5 : decode cX3_all 5 = .ok (.ishl, 1) := by decide +kernel
theorem dX3_all_6 : decode cX3_all 6 = .ok (.iconst 1, 1) := by decide +kernel
theorem dX3_all_7 : decode cX3_all 7 = .ok (.isub, 1) := by decide +kernel
theorem dX3_all_8 : decode cX3_all 8 = .ok (.ireturn, 1) := by decide +kernel
theorem dX3_sum_0 : decode cX3_sum 0 = .ok (.iconst 0, 1) := by decide +kernel
theorem dX3_sum_1 : decode cX3_sum 1 = .ok (.istore_n 3, 1) := by decide +kernel
theorem dX3_sum_2 : decode cX3_sum 2 = .ok (.iconst 0, 1) := by decide +kernel
theorem dX3_sum_3 : decode cX3_sum 3 = .ok (.istore 4, 2) := by decide +kernel
theorem dX3_sum_5 : decode cX3_sum 5 = .ok (.iload 4, 2) := by decide +kernel
theorem dX3_sum_7 : decode cX3_sum 7 = .ok (.aload_n 0, 1) := by decide +kernel
theorem dX3_sum_8 : decode cX3_sum 8 = .ok (.getfield 25, 3) := by decide +kernel
theorem dX3_sum_11 : decode cX3_sum 11 = .ok (.if_icmp .ge 29, 3) := by decide +kernel
theorem dX3_sum_14 : decode cX3_sum 14 = .ok (.iload_n 1, 1) := by decide +kernel
theorem dX3_sum_15 : decode cX3_sum 15 = .ok (.iload 4, 2) := by decide +kernel
theorem dX3_sum_17 : decode cX3_sum 17 = .ok (.invokestatic 49, 3) := by decide +kernel
theorem dX3_sum_20 : decode cX3_sum 20 = .ok (.iconst 1, 1) := by decide +kernel
theorem dX3_sum_21 : decode cX3_sum 21 = .ok (.if_icmp .ne 13, 3) := by decide +kernel
theorem dX3_sum_24 : decode cX3_sum 24 = .ok (.iload_n 3, 1) := by decide +kernel
theorem dX3_sum_25 : decode cX3_sum 25 = .ok (.aload_n 0, 1) := by decide +kernel
theorem dX3_sum_26 : decode cX3_sum 26 = .ok (.iload 4, 2) := by decide +kernel
theorem dX3_sum_28 : decode cX3_sum 28 = .ok (.iload_n 2, 1) := by decide +kernel
theorem dX3_sum_29 : decode cX3_sum 29 = .ok (.invokevirtual 45, 3) := by decide +kernel
theorem dX3_sum_32 : decode cX3_sum 32 = .ok (.iadd, 1) := by decide +kernel
theorem dX3_sum_33 : decode cX3_sum 33 = .ok (.istore_n 3, 1) := by decide +kernel
theorem dX3_sum_34 : decode cX3_sum 34 = .ok (.iinc 4 1, 3) := by decide +kernel
theorem dX3_sum_37 : decode cX3_sum 37 = .ok (.goto (-32), 3) := by decide +kernel
theorem dX3_sum_40 : decode cX3_sum 40 = .ok (.iload_n 3, 1) := by decide +kernel
theorem dX3_sum_41 : decode cX3_sum 41 = .ok (.ireturn, 1) := by decide +kernel
theorem dX3_hasItsNeeds_0 : decode cX3_hasItsNeeds 0 = .ok (.iconst 0, 1) := by decide +kernel
theorem dX3_hasItsNeeds_1 : decode cX3_hasItsNeeds 1 = .ok (.istore_n 2, 1) := by decide +kernel
theorem dX3_hasItsNeeds_2 : decode cX3_hasItsNeeds 2 = .ok (.iload_n 2, 1) := by decide +kernel
theorem dX3_hasItsNeeds_3 : decode cX3_hasItsNeeds 3 = .ok (.aload_n 0, 1) := by decide +kernel
theorem dX3_hasItsNeeds_4 : decode cX3_hasItsNeeds 4 = .ok (.getfield 25, 3) := by decide +kernel
theorem dX3_hasItsNeeds_7 : decode cX3_hasItsNeeds 7 = .ok (.if_icmp .ge 41, 3) := by decide +kernel
theorem dX3_hasItsNeeds_10 : decode cX3_hasItsNeeds 10 = .ok (.iload_n 1, 1) := by decide +kernel
theorem dX3_hasItsNeeds_11 : decode cX3_hasItsNeeds 11 = .ok (.iload_n 2, 1) := by decide +kernel
theorem dX3_hasItsNeeds_12 : decode cX3_hasItsNeeds 12 = .ok (.invokestatic 49, 3) := by decide +kernel
theorem dX3_hasItsNeeds_15 : decode cX3_hasItsNeeds 15 = .ok (.iconst 1, 1) := by decide +kernel
theorem dX3_hasItsNeeds_16 : decode cX3_hasItsNeeds 16 = .ok (.if_icmp .ne 26, 3) := by decide +kernel
theorem dX3_hasItsNeeds_19 : decode cX3_hasItsNeeds 19 = .ok (.aload_n 0, 1) := by decide +kernel
theorem dX3_hasItsNeeds_20 : decode cX3_hasItsNeeds 20 = .ok (.iload_n 2, 1) := by decide +kernel
theorem dX3_hasItsNeeds_21 : decode cX3_hasItsNeeds 21 = .ok (.invokevirtual 52, 3) := by decide +kernel
theorem dX3_hasItsNeeds_24 : decode cX3_hasItsNeeds 24 = .ok (.ifCond .eq 18, 3) := by decide +kernel
theorem dX3_hasItsNeeds_27 : decode cX3_hasItsNeeds 27 = .ok (.iload_n 1, 1) := by decide +kernel
theorem dX3_hasItsNeeds_28 : decode cX3_hasItsNeeds 28 = .ok (.aload_n 0, 1) := by decide +kernel
theorem dX3_hasItsNeeds_29 : decode cX3_hasItsNeeds 29 = .ok (.iload_n 2, 1) := by decide +kernel
theorem dX3_hasItsNeeds_30 : decode cX3_hasItsNeeds 30 = .ok (.iconst 2, 1) := by decide +kernel
theorem dX3_hasItsNeeds_31 : decode cX3_hasItsNeeds 31 = .ok (.invokevirtual 45, 3) := by decide +kernel
theorem dX3_hasItsNeeds_34 : decode cX3_hasItsNeeds 34 = .ok (.invokestatic 49, 3) := by decide +kernel
theorem dX3_hasItsNeeds_37 : decode cX3_hasItsNeeds 37 = .ok (.ifCond .ne 5, 3) := by decide +kernel
theorem dX3_hasItsNeeds_40 : decode cX3_hasItsNeeds 40 = .ok (.iconst 0, 1) := by decide +kernel
theorem dX3_hasItsNeeds_41 : decode cX3_hasItsNeeds 41 = .ok (.ireturn, 1) := by decide +kernel
theorem dX3_hasItsNeeds_42 : decode cX3_hasItsNeeds 42 = .ok (.iinc 2 1, 3) := by decide +kernel
theorem dX3_hasItsNeeds_45 : decode cX3_hasItsNeeds 45 = .ok (.goto (-43), 3) := by decide +kernel
theorem dX3_hasItsNeeds_48 : decode cX3_hasItsNeeds 48 = .ok (.iconst 1, 1) := by decide +kernel
theorem dX3_hasItsNeeds_49 : decode cX3_hasItsNeeds 49 = .ok (.ireturn, 1) := by decide +kernel
