theorem dX5_init_0 : decode cX5_init 0 = .ok (.aload_n 0, 1) := by decide +kernel
theorem dX5_init_1 : decode cX5_init 1 = .ok (.invokespecial 1, 3) := by decide +kernel
theorem dX5_init_4 : decode cX5_init 4 = .ok (.aload_n 0, 1) := by decide +kernel
theorem dX5_init_5 : decode cX5_init 5 = .ok (.sipush 200, 3) := by decide +kernel
theorem dX5_init_8 : decode cX5_init 8 = .ok (.newarray .byte, 2) := by decide +kernel
theorem dX5_init_10 : decode cX5_init 10 = .ok (.putfield 7, 3) := by decide +kernel
theorem dX5_init_13 : decode cX5_init 13 = .ok (.aload_n 0, 1) := by decide +kernel
theorem dX5_init_14 : decode cX5_init 14 = .ok (.iconst 2, 1) := by decide +kernel
theorem dX5_init_15 : decode cX5_init 15 = .ok (.newarray .int, 2) := by decide +kernel
theorem dX5_init_17 : decode cX5_init 17 = .ok (.putfield 13, 3) := by decide +kernel
theorem dX5_init_20 : decode cX5_init 20 = .ok (.aload_n 0, 1) := by decide +kernel
theorem dX5_init_21 : decode cX5_init 21 = .ok (.bipush 12, 2) := by decide +kernel
theorem dX5_init_23 : decode cX5_init 23 = .ok (.newarray .int, 2) := by decide +kernel
theorem dX5_init_25 : decode cX5_init 25 = .ok (.putfield 17, 3) := by decide +kernel
theorem dX5_init_28 : decode cX5_init 28 = .ok (.aload_n 0, 1) := by decide +kernel
theorem dX5_init_29 : decode cX5_init 29 = .ok (.iconst 2, 1) := by decide +kernel
theorem dX5_init_30 : decode cX5_init 30 = .ok (.newarray .int, 2) := by decide +kernel
theorem dX5_init_32 : decode cX5_init 32 = .ok (.putfield 20, 3) := by decide +kernel
theorem dX5_init_35 : decode cX5_init 35 = .ok (.aload_n 0, 1) := by decide +kernel
theorem dX5_init_36 : decode cX5_init 36 = .ok (.bipush 100, 2) := by decide +kernel
theorem dX5_init_38 : decode cX5_init 38 = .ok (.newarray .int, 2) := by decide +kernel
theorem dX5_init_40 : decode cX5_init 40 = .ok (.putfield 23, 3) := by decide +kernel
theorem dX5_init_43 : decode cX5_init 43 = .ok (.aload_n 0, 1) := by decide +kernel
theorem dX5_init_44 : decode cX5_init 44 = .ok (.iconst 2, 1) := by decide +kernel
theorem dX5_init_45 : decode cX5_init 45 = .ok (.newarray .int, 2) := by decide +kernel
theorem dX5_init_47 : decode cX5_init 47 = .ok (.putfield 26, 3) := by decide +kernel
theorem dX5_init_50 : decode cX5_init 50 = .ok (.aload_n 0, 1) := by decide +kernel
theorem dX5_init_51 : decode cX5_init 51 = .ok (.sipush 198, 3) := by decide +kernel
theorem dX5_init_54 : decode cX5_init 54 = .ok (.newarray .int, 2) := by decide +kernel
theorem dX5_init_56 : decode cX5_init 56 = .ok (.putfield 29, 3) := by decide +kernel
theorem dX5_init_59 : decode cX5_init 59 = .ok (.aload_n 0, 1) := by decide +kernel
theorem dX5_init_60 : decode cX5_init 60 = .ok (.iconst 2, 1) := by decide +kernel
theorem dX5_init_61 : decode cX5_init 61 = .ok (.newarray .boolean, 2) := by decide +kernel
theorem dX5_init_63 : decode cX5_init 63 = .ok (.putfield 32, 3) := by decide +kernel
theorem dX5_init_66 : decode cX5_init 66 = .ok (.aload_n 0, 1) := by decide +kernel
theorem dX5_init_67 : decode cX5_init 67 = .ok (.bipush 6, 2) := by decide +kernel
theorem dX5_init_69 : decode cX5_init 69 = .ok (.newarray .int, 2) := by decide +kernel
theorem dX5_init_71 : decode cX5_init 71 = .ok (.putfield 36, 3) := by decide +kernel
theorem dX5_init_74 : decode cX5_init 74 = .ok (.aload_n 0, 1) := by decide +kernel
theorem dX5_init_75 : decode cX5_init 75 = .ok (.bipush 10, 2) := by decide +kernel
theorem dX5_init_77 : decode cX5_init 77 = .ok (.newarray .int, 2) := by decide +kernel
theorem dX5_init_79 : decode cX5_init 79 = .ok (.putfield 39, 3) := by decide +kernel
theorem dX5_init_82 : decode cX5_init 82 = .ok (.aload_n 0, 1) := by decide +kernel
theorem dX5_init_83 : decode cX5_init 83 = .ok (.bipush 6, 2) := by decide +kernel
theorem dX5_init_85 : decode cX5_init 85 = .ok (.newarray .int, 2) := by decide +kernel
theorem dX5_init_87 : decode cX5_init 87 = .ok (.putfield 42, 3) := by decide +kernel
theorem dX5_init_90 : decode cX5_init 90 = .ok (.aload_n 0, 1) := by decide +kernel
theorem dX5_init_91 : decode cX5_init 91 = .ok (.bipush 6, 2) := by decide +kernel
theorem dX5_init_93 : decode cX5_init 93 = .ok (.newarray .int, 2) := by decide +kernel
theorem dX5_init_95 : decode cX5_init 95 = .ok (.putfield 45, 3) := by decide +kernel
theorem dX5_init_98 : decode cX5_init 98 = .ok (.aload_n 0, 1) := by decide +kernel
theorem dX5_init_99 : decode cX5_init 99 = .ok (.bipush 6, 2) := by decide +kernel
theorem dX5_init_101 : decode cX5_init 101 = .ok (.newarray .int, 2) := by decide +kernel
theorem dX5_init_103 : decode cX5_init 103 = .ok (.putfield 48, 3) := by decide +kernel
theorem dX5_init_106 : decode cX5_init 106 = .ok (.aload_n 0, 1) := by decide +kernel
theorem dX5_init_107 : decode cX5_init 107 = .ok (.getfield 26, 3) := by decide +kernel
theorem dX5_init_110 : decode cX5_init 110 = .ok (.iconst 0, 1) := by decide +kernel
theorem dX5_init_111 : decode cX5_init 111 = .ok (.iconst 1, 1) := by decide +kernel
theorem dX5_init_112 : decode cX5_init 112 = .ok (.iastore, 1) := by decide +kernel
theorem dX5_init_113 : decode cX5_init 113 = .ok (.aload_n 0, 1) := by decide +kernel
theorem dX5_init_114 : decode cX5_init 114 = .ok (.getfield 29, 3) := by decide +kernel
theorem dX5_init_117 : decode cX5_init 117 = .ok (.iconst 3, 1) := by decide +kernel
theorem dX5_init_118 : decode cX5_init 118 = .ok (.iconst 5, 1) := by decide +kernel
theorem dX5_init_119 : decode cX5_init 119 = .ok (.iastore, 1) := by decide +kernel
theorem dX5_init_120 : decode cX5_init 120 = .ok (.return_, 1) := by decide +kernel
theorem dX5_in_0 : decode cX5_in 0 = .ok (.iload_n 0, 1) := by decide +kernel
theorem dX5_in_1 : decode cX5_in 1 = .ok (.iload_n 1, 1) := by decide +kernel
theorem dX5_in_2 : decode cX5_in 2 = .ok (.if_icmp .lt 12, 3) := by decide +kernel
theorem dX5_in_5 : decode cX5_in 5 = .ok (.iload_n 0, 1) := by decide +kernel
theorem dX5_in_6 : decode cX5_in 6 = .ok (.iload_n 2, 1) := by decide +kernel
theorem dX5_in_7 : decode cX5_in 7 = .ok (.if_icmp .gt 7, 3) := by decide +kernel
theorem dX5_in_10 : decode cX5_in 10 = .ok (.iconst 1, 1) := by decide +kernel
theorem dX5_in_11 : decode cX5_in 11 = .ok (.goto 4, 3) := by decide +kernel
theorem dX5_in_14 : decode cX5_in 14 = .ok (.iconst 0, 1) := by decide +kernel
theorem dX5_in_15 : decode cX5_in 15 = .ok (.ireturn, 1) := by decide +kernel
theorem dX5_type_0 : decode cX5_type 0 = .ok (.iload_n 1, 1) := by decide +kernel
theorem dX5_type_1 : decode cX5_type 1 = .ok (.iconst 0, 1) := by decide +kernel
theorem dX5_type_2 : decode cX5_type 2 = .ok (.sipush 255, 3) := by decide +kernel
theorem dX5_type_5 : decode cX5_type 5 = .ok (.invokestatic 51, 3) := by decide +kernel
theorem dX5_type_8 : decode cX5_type 8 = .ok (.ifCond .ne 5, 3) := by decide +kernel
theorem dX5_type_11 : decode cX5_type 11 = .ok (.iconst (-1), 1) := by decide +kernel
theorem dX5_type_12 : decode cX5_type 12 = .ok (.ireturn, 1) := by decide +kernel
theorem dX5_type_13 : decode cX5_type 13 = .ok (.aload_n 0, 1) := by decide +kernel
theorem dX5_type_14 : decode cX5_type 14 = .ok (.getfield 55, 3) := by decide +kernel
theorem dX5_type_17 : decode cX5_type 17 = .ok (.sipush 200, 3) := by decide +kernel
theorem dX5_type_20 : decode cX5_type 20 = .ok (.if_icmp .ne 6, 3) := by decide +kernel
theorem dX5_type_23 : decode cX5_type 23 = .ok (.bipush (-3), 2) := by decide +kernel
theorem dX5_type_25 : decode cX5_type 25 = .ok (.ireturn, 1) := by decide +kernel
theorem dX5_type_26 : decode cX5_type 26 = .ok (.aload_n 0, 1) := by decide +kernel
theorem dX5_type_27 : decode cX5_type 27 = .ok (.getfield 7, 3) := by decide +kernel
theorem dX5_type_30 : decode cX5_type 30 = .ok (.aload_n 0, 1) := by decide +kernel
theorem dX5_type_31 : decode cX5_type 31 = .ok (.getfield 55, 3) := by decide +kernel
theorem dX5_type_34 : decode cX5_type 34 = .ok (.iload_n 1, 1) := by decide +kernel
theorem dX5_type_35 : decode cX5_type 35 = .ok (.i2b, 1) := by decide +kernel
theorem dX5_type_36 : decode cX5_type 36 = .ok (.bastore, 1) := by decide +kernel
theorem dX5_type_37 : decode cX5_type 37 = .ok (.aload_n 0, 1) := by decide +kernel
theorem dX5_type_38 : decode cX5_type 38 = .ok (.dup, 1) := by decide +kernel
theorem dX5_type_39 : decode cX5_type 39 = .ok (.getfield 55, 3) := by decide +kernel
theorem dX5_type_42 : decode cX5_type 42 = .ok (.iconst 1, 1) := by decide +kernel
theorem dX5_type_43 : decode cX5_type 43 = .ok (.iadd, 1) := by decide +kernel
theorem dX5_type_44 : decode cX5_type 44 = .ok (.putfield 55, 3) := by decide +kernel
theorem dX5_type_47 : decode cX5_type 47 = .ok (.aload_n 0, 1) := by decide +kernel
theorem dX5_type_48 : decode cX5_type 48 = .ok (.getfield 55, 3) := by decide +kernel
theorem dX5_type_51 : decode cX5_type 51 = .ok (.ireturn, 1) := by decide +kernel
theorem dX5_clear_0 : decode cX5_clear 0 = .ok (.aload_n 0, 1) := by decide +kernel
theorem dX5_clear_1 : decode cX5_clear 1 = .ok (.getfield 55, 3) := by decide +kernel
theorem dX5_clear_4 : decode cX5_clear 4 = .ok (.istore_n 1, 1) := by decide +kernel
theorem dX5_clear_5 : decode cX5_clear 5 = .ok (.aload_n 0, 1) := by decide +kernel
theorem dX5_clear_6 : decode cX5_clear 6 = .ok (.iconst 0, 1) := by decide +kernel
theorem dX5_clear_7 : decode cX5_clear 7 = .ok (.putfield 55, 3) := by decide +kernel
theorem dX5_clear_10 : decode cX5_clear 10 = .ok (.iload_n 1, 1) := by decide +kernel
theorem dX5_clear_11 : decode cX5_clear 11 = .ok (.ireturn, 1) := by decide +kernel
theorem dX5_here_0 : decode cX5_here 0 = .ok (.aload_n 0, 1) := by decide +kernel
theorem dX5_here_1 : decode cX5_here 1 = .ok (.getfield 59, 3) := by decide +kernel
theorem dX5_here_4 : decode cX5_here 4 = .ok (.aload_n 0, 1) := by decide +kernel
theorem dX5_here_5 : decode cX5_here 5 = .ok (.getfield 55, 3) := by decide +kernel
theorem dX5_here_8 : decode cX5_here 8 = .ok (.if_icmp .ge 19, 3) := by decide +kernel
theorem dX5_here_11 : decode cX5_here 11 = .ok (.aload_n 0, 1) := by decide +kernel
theorem dX5_here_12 : decode cX5_here 12 = .ok (.getfield 7, 3) := by decide +kernel
theorem dX5_here_15 : decode cX5_here 15 = .ok (.aload_n 0, 1) := by decide +kernel
theorem dX5_here_16 : decode cX5_here 16 = .ok (.getfield 59, 3) := by decide +kernel
theorem dX5_here_19 : decode cX5_here 19 = .ok (.baload, 1) := by decide +kernel
theorem dX5_here_20 : decode cX5_here 20 = .ok (.sipush 255, 3) := by decide +kernel
theorem dX5_here_23 : decode cX5_here 23 = .ok (.iand, 1) := by decide +kernel
theorem dX5_here_24 : decode cX5_here 24 = .ok (.goto 4, 3) := by decide +kernel
theorem dX5_here_27 : decode cX5_here 27 = .ok (.iconst (-1), 1) := by decide +kernel
theorem dX5_here_28 : decode cX5_here 28 = .ok (.ireturn, 1) := by decide +kernel
theorem dX5_next_0 : decode cX5_next 0 = .ok (.aload_n 0, 1) := by decide +kernel
theorem dX5_next_1 : decode cX5_next 1 = .ok (.invokevirtual 62, 3) := by decide +kernel
theorem dX5_next_4 : decode cX5_next 4 = .ok (.bipush 32, 2) := by decide +kernel
theorem dX5_next_6 : decode cX5_next 6 = .ok (.if_icmp .ne 16, 3) := by decide +kernel
theorem dX5_next_9 : decode cX5_next 9 = .ok (.aload_n 0, 1) := by decide +kernel
theorem dX5_next_10 : decode cX5_next 10 = .ok (.dup, 1) := by decide +kernel
theorem dX5_next_11 : decode cX5_next 11 = .ok (.getfield 59, 3) := by decide +kernel
theorem dX5_next_14 : decode cX5_next 14 = .ok (.iconst 1, 1) := by decide +kernel
theorem dX5_next_15 : decode cX5_next 15 = .ok (.iadd, 1) := by decide +kernel
theorem dX5_next_16 : decode cX5_next 16 = .ok (.putfield 59, 3) := by decide +kernel
theorem dX5_next_19 : decode cX5_next 19 = .ok (.goto (-19), 3) := by decide +kernel
theorem dX5_next_22 : decode cX5_next 22 = .ok (.aload_n 0, 1) := by decide +kernel
theorem dX5_next_23 : decode cX5_next 23 = .ok (.aload_n 0, 1) := by decide +kernel
theorem dX5_next_24 : decode cX5_next 24 = .ok (.getfield 59, 3) := by decide +kernel
theorem dX5_next_27 : decode cX5_next 27 = .ok (.putfield 66, 3) := by decide +kernel
theorem dX5_next_30 : decode cX5_next 30 = .ok (.aload_n 0, 1) := by decide +kernel
theorem dX5_next_31 : decode cX5_next 31 = .ok (.iconst 0, 1) := by decide +kernel
theorem dX5_next_32 : decode cX5_next 32 = .ok (.putfield 69, 3) := by decide +kernel
theorem dX5_next_35 : decode cX5_next 35 = .ok (.aload_n 0, 1) := by decide +kernel
theorem dX5_next_36 : decode cX5_next 36 = .ok (.invokevirtual 62, 3) := by decide +kernel
theorem dX5_next_39 : decode cX5_next 39 = .ok (.istore_n 1, 1) := by decide +kernel
theorem dX5_next_40 : decode cX5_next 40 = .ok (.iload_n 1, 1) := by decide +kernel
theorem dX5_next_41 : decode cX5_next 41 = .ok (.ifCond .ge 11, 3) := by decide +kernel
theorem dX5_next_44 : decode cX5_next 44 = .ok (.aload_n 0, 1) := by decide +kernel
theorem dX5_next_45 : decode cX5_next 45 = .ok (.iconst 3, 1) := by decide +kernel
theorem dX5_next_46 : decode cX5_next 46 = .ok (.putfield 72, 3) := by decide +kernel
theorem dX5_next_49 : decode cX5_next 49 = .ok (.goto 204, 3) := by decide +kernel
theorem dX5_next_52 : decode cX5_next 52 = .ok (.iload_n 1, 1) := by decide +kernel
theorem dX5_next_53 : decode cX5_next 53 = .ok (.bipush 97, 2) := by decide +kernel
theorem dX5_next_55 : decode cX5_next 55 = .ok (.bipush 122, 2) := by decide +kernel
theorem dX5_next_57 : decode cX5_next 57 = .ok (.invokestatic 51, 3) := by decide +kernel
theorem dX5_next_60 : decode cX5_next 60 = .ok (.ifCond .eq 55, 3) := by decide +kernel
theorem dX5_next_63 : decode cX5_next 63 = .ok (.aload_n 0, 1) := by decide +kernel
theorem dX5_next_64 : decode cX5_next 64 = .ok (.invokevirtual 62, 3) := by decide +kernel
theorem dX5_next_67 : decode cX5_next 67 = .ok (.bipush 97, 2) := by decide +kernel
theorem dX5_next_69 : decode cX5_next 69 = .ok (.bipush 122, 2) := by decide +kernel
theorem dX5_next_71 : decode cX5_next 71 = .ok (.invokestatic 51, 3) := by decide +kernel
theorem dX5_next_74 : decode cX5_next 74 = .ok (.ifCond .eq 16, 3) := by decide +kernel
theorem dX5_next_77 : decode cX5_next 77 = .ok (.aload_n 0, 1) := by decide +kernel
theorem dX5_next_78 : decode cX5_next 78 = .ok (.dup, 1) := by decide +kernel
theorem dX5_next_79 : decode cX5_next 79 = .ok (.getfield 59, 3) := by decide +kernel
theorem dX5_next_82 : decode cX5_next 82 = .ok (.iconst 1, 1) := by decide +kernel
theorem dX5_next_83 : decode cX5_next 83 = .ok (.iadd, 1) := by decide +kernel
theorem dX5_next_84 : decode cX5_next 84 = .ok (.putfield 59, 3) := by decide +kernel
theorem dX5_next_87 : decode cX5_next 87 = .ok (.goto (-24), 3) := by decide +kernel
theorem dX5_next_90 : decode cX5_next 90 = .ok (.aload_n 0, 1) := by decide +kernel
theorem dX5_next_91 : decode cX5_next 91 = .ok (.aload_n 0, 1) := by decide +kernel
theorem dX5_next_92 : decode cX5_next 92 = .ok (.getfield 59, 3) := by decide +kernel
theorem dX5_next_95 : decode cX5_next 95 = .ok (.aload_n 0, 1) := by decide +kernel
theorem dX5_next_96 : decode cX5_next 96 = .ok (.getfield 66, 3) := by decide +kernel
theorem dX5_next_99 : decode cX5_next 99 = .ok (.isub, 1) := by decide +kernel
theorem dX5_next_100 : decode cX5_next 100 = .ok (.iconst 1, 1) := by decide +kernel
theorem dX5_next_101 : decode cX5_next 101 = .ok (.if_icmp .ne 7, 3) := by decide +kernel
theorem dX5_next_104 : decode cX5_next 104 = .ok (.iload_n 1, 1) := by decide +kernel
theorem dX5_next_105 : decode cX5_next 105 = .ok (.goto 4, 3) := by decide +kernel
theorem dX5_next_108 : decode cX5_next 108 = .ok (.iconst 4, 1) := by decide +kernel
theorem dX5_next_109 : decode cX5_next 109 = .ok (.putfield 72, 3) := by decide +kernel
theorem dX5_next_112 : decode cX5_next 112 = .ok (.goto 141, 3) := by decide +kernel
theorem dX5_next_115 : decode cX5_next 115 = .ok (.iload_n 1, 1) := by decide +kernel
theorem dX5_next_116 : decode cX5_next 116 = .ok (.bipush 48, 2) := by decide +kernel
theorem dX5_next_118 : decode cX5_next 118 = .ok (.bipush 57, 2) := by decide +kernel
theorem dX5_next_120 : decode cX5_next 120 = .ok (.invokestatic 51, 3) := by decide +kernel
theorem dX5_next_123 : decode cX5_next 123 = .ok (.ifCond .eq 105, 3) := by decide +kernel
theorem dX5_next_126 : decode cX5_next 126 = .ok (.aload_n 0, 1) := by decide +kernel
theorem dX5_next_127 : decode cX5_next 127 = .ok (.invokevirtual 62, 3) := by decide +kernel
theorem dX5_next_130 : decode cX5_next 130 = .ok (.bipush 48, 2) := by decide +kernel
theorem dX5_next_132 : decode cX5_next 132 = .ok (.bipush 57, 2) := by decide +kernel
theorem dX5_next_134 : decode cX5_next 134 = .ok (.invokestatic 51, 3) := by decide +kernel
theorem dX5_next_137 : decode cX5_next 137 = .ok (.ifCond .eq 51, 3) := by decide +kernel
theorem dX5_next_140 : decode cX5_next 140 = .ok (.aload_n 0, 1) := by decide +kernel
theorem dX5_next_141 : decode cX5_next 141 = .ok (.aload_n 0, 1) := by decide +kernel
theorem dX5_next_142 : decode cX5_next 142 = .ok (.getfield 69, 3) := by decide +kernel
theorem dX5_next_145 : decode cX5_next 145 = .ok (.bipush 99, 2) := by decide +kernel
theorem dX5_next_147 : decode cX5_next 147 = .ok (.if_icmp .le 10, 3) := by decide +kernel
theorem dX5_next_150 : decode cX5_next 150 = .ok (.aload_n 0, 1) := by decide +kernel
theorem dX5_next_151 : decode cX5_next 151 = .ok (.getfield 69, 3) := by decide +kernel
theorem dX5_next_154 : decode cX5_next 154 = .ok (.goto 18, 3) := by decide +kernel
theorem dX5_next_157 : decode cX5_next 157 = .ok (.bipush 10, 2) := by decide +kernel
theorem dX5_next_159 : decode cX5_next 159 = .ok (.aload_n 0, 1) := by decide +kernel
theorem dX5_next_160 : decode cX5_next 160 = .ok (.getfield 69, 3) := by decide +kernel
theorem dX5_next_163 : decode cX5_next 163 = .ok (.imul, 1) := by decide +kernel
theorem dX5_next_164 : decode cX5_next 164 = .ok (.aload_n 0, 1) := by decide +kernel
theorem dX5_next_165 : decode cX5_next 165 = .ok (.invokevirtual 62, 3) := by decide +kernel
theorem dX5_next_168 : decode cX5_next 168 = .ok (.iadd, 1) := by decide +kernel
theorem dX5_next_169 : decode cX5_next 169 = .ok (.bipush 48, 2) := by decide +kernel
theorem dX5_next_171 : decode cX5_next 171 = .ok (.isub, 1) := by decide +kernel
theorem dX5_next_172 : decode cX5_next 172 = .ok (.putfield 69, 3) := by decide +kernel
theorem dX5_next_175 : decode cX5_next 175 = .ok (.aload_n 0, 1) := by decide +kernel
theorem dX5_next_176 : decode cX5_next 176 = .ok (.dup, 1) := by decide +kernel
theorem dX5_next_177 : decode cX5_next 177 = .ok (.getfield 59, 3) := by decide +kernel
theorem dX5_next_180 : decode cX5_next 180 = .ok (.iconst 1, 1) := by decide +kernel
theorem dX5_next_181 : decode cX5_next 181 = .ok (.iadd, 1) := by decide +kernel
theorem dX5_next_182 : decode cX5_next 182 = .ok (.putfield 59, 3) := by decide +kernel
theorem dX5_next_185 : decode cX5_next 185 = .ok (.goto (-59), 3) := by decide +kernel
theorem dX5_next_188 : decode cX5_next 188 = .ok (.aload_n 0, 1) := by decide +kernel
theorem dX5_next_189 : decode cX5_next 189 = .ok (.aload_n 0, 1) := by decide +kernel
theorem dX5_next_190 : decode cX5_next 190 = .ok (.getfield 69, 3) := by decide +kernel
theorem dX5_next_193 : decode cX5_next 193 = .ok (.bipush 99, 2) := by decide +kernel
theorem dX5_next_195 : decode cX5_next 195 = .ok (.if_icmp .gt 22, 3) := by decide +kernel
theorem dX5_next_198 : decode cX5_next 198 = .ok (.iload_n 1, 1) := by decide +kernel
theorem dX5_next_199 : decode cX5_next 199 = .ok (.bipush 48, 2) := by decide +kernel
theorem dX5_next_201 : decode cX5_next 201 = .ok (.if_icmp .ne 20, 3) := by decide +kernel
theorem dX5_next_204 : decode cX5_next 204 = .ok (.aload_n 0, 1) := by decide +kernel
theorem dX5_next_205 : decode cX5_next 205 = .ok (.getfield 59, 3) := by decide +kernel
theorem dX5_next_208 : decode cX5_next 208 = .ok (.aload_n 0, 1) := by decide +kernel
theorem dX5_next_209 : decode cX5_next 209 = .ok (.getfield 66, 3) := by decide +kernel
theorem dX5_next_212 : decode cX5_next 212 = .ok (.isub, 1) := by decide +kernel
theorem dX5_next_213 : decode cX5_next 213 = .ok (.iconst 1, 1) := by decide +kernel
theorem dX5_next_214 : decode cX5_next 214 = .ok (.if_icmp .le 7, 3) := by decide +kernel
theorem dX5_next_217 : decode cX5_next 217 = .ok (.iconst 4, 1) := by decide +kernel
theorem dX5_next_218 : decode cX5_next 218 = .ok (.goto 4, 3) := by decide +kernel
theorem dX5_next_221 : decode cX5_next 221 = .ok (.iconst 1, 1) := by decide +kernel
theorem dX5_next_222 : decode cX5_next 222 = .ok (.putfield 72, 3) := by decide +kernel
theorem dX5_next_225 : decode cX5_next 225 = .ok (.goto 28, 3) := by decide +kernel
theorem dX5_next_228 : decode cX5_next 228 = .ok (.aload_n 0, 1) := by decide +kernel
theorem dX5_next_229 : decode cX5_next 229 = .ok (.dup, 1) := by decide +kernel
theorem dX5_next_230 : decode cX5_next 230 = .ok (.getfield 59, 3) := by decide +kernel
theorem dX5_next_233 : decode cX5_next 233 = .ok (.iconst 1, 1) := by decide +kernel
theorem dX5_next_234 : decode cX5_next 234 = .ok (.iadd, 1) := by decide +kernel
theorem dX5_next_235 : decode cX5_next 235 = .ok (.putfield 59, 3) := by decide +kernel
theorem dX5_next_238 : decode cX5_next 238 = .ok (.aload_n 0, 1) := by decide +kernel
theorem dX5_next_239 : decode cX5_next 239 = .ok (.iload_n 1, 1) := by decide +kernel
theorem dX5_next_240 : decode cX5_next 240 = .ok (.bipush 59, 2) := by decide +kernel
theorem dX5_next_242 : decode cX5_next 242 = .ok (.if_icmp .ne 7, 3) := by decide +kernel
theorem dX5_next_245 : decode cX5_next 245 = .ok (.iconst 2, 1) := by decide +kernel
theorem dX5_next_246 : decode cX5_next 246 = .ok (.goto 4, 3) := by decide +kernel
theorem dX5_next_249 : decode cX5_next 249 = .ok (.iconst 4, 1) := by decide +kernel
theorem dX5_next_250 : decode cX5_next 250 = .ok (.putfield 72, 3) := by decide +kernel
theorem dX5_next_253 : decode cX5_next 253 = .ok (.return_, 1) := by decide +kernel
theorem dX5_due_0 : decode cX5_due 0 = .ok (.aload_n 0, 1) := by decide +kernel
theorem dX5_due_1 : decode cX5_due 1 = .ok (.getfield 69, 3) := by decide +kernel
theorem dX5_due_4 : decode cX5_due 4 = .ok (.istore_n 2, 1) := by decide +kernel
theorem dX5_due_5 : decode cX5_due 5 = .ok (.aload_n 0, 1) := by decide +kernel
theorem dX5_due_6 : decode cX5_due 6 = .ok (.getfield 75, 3) := by decide +kernel
theorem dX5_due_9 : decode cX5_due 9 = .ok (.bipush (-9), 2) := by decide +kernel
theorem dX5_due_11 : decode cX5_due 11 = .ok (.if_icmp .ne 22, 3) := by decide +kernel
theorem dX5_due_14 : decode cX5_due 14 = .ok (.iload_n 1, 1) := by decide +kernel
theorem dX5_due_15 : decode cX5_due 15 = .ok (.ifCond .eq 10, 3) := by decide +kernel
theorem dX5_due_18 : decode cX5_due 18 = .ok (.aload_n 0, 1) := by decide +kernel
theorem dX5_due_19 : decode cX5_due 19 = .ok (.invokevirtual 78, 3) := by decide +kernel
theorem dX5_due_22 : decode cX5_due 22 = .ok (.goto 11, 3) := by decide +kernel
theorem dX5_due_25 : decode cX5_due 25 = .ok (.aload_n 0, 1) := by decide +kernel
theorem dX5_due_26 : decode cX5_due 26 = .ok (.aload_n 0, 1) := by decide +kernel
theorem dX5_due_27 : decode cX5_due 27 = .ok (.getfield 66, 3) := by decide +kernel
theorem dX5_due_30 : decode cX5_due 30 = .ok (.putfield 75, 3) := by decide +kernel
theorem dX5_due_33 : decode cX5_due 33 = .ok (.iload_n 2, 1) := by decide +kernel
theorem dX5_due_34 : decode cX5_due 34 = .ok (.ireturn, 1) := by decide +kernel
theorem dX5_number_0 : decode cX5_number 0 = .ok (.aload_n 0, 1) := by decide +kernel
theorem dX5_number_1 : decode cX5_number 1 = .ok (.aload_n 0, 1) := by decide +kernel
theorem dX5_number_2 : decode cX5_number 2 = .ok (.getfield 72, 3) := by decide +kernel
theorem dX5_number_5 : decode cX5_number 5 = .ok (.iconst 1, 1) := by decide +kernel
theorem dX5_number_6 : decode cX5_number 6 = .ok (.if_icmp .ne 19, 3) := by decide +kernel
theorem dX5_number_9 : decode cX5_number 9 = .ok (.aload_n 0, 1) := by decide +kernel
theorem dX5_number_10 : decode cX5_number 10 = .ok (.getfield 69, 3) := by decide +kernel
theorem dX5_number_13 : decode cX5_number 13 = .ok (.iload_n 1, 1) := by decide +kernel
theorem dX5_number_14 : decode cX5_number 14 = .ok (.iload_n 2, 1) := by decide +kernel
theorem dX5_number_15 : decode cX5_number 15 = .ok (.invokestatic 51, 3) := by decide +kernel
theorem dX5_number_18 : decode cX5_number 18 = .ok (.ifCond .eq 7, 3) := by decide +kernel
theorem dX5_number_21 : decode cX5_number 21 = .ok (.iconst 1, 1) := by decide +kernel
theorem dX5_number_22 : decode cX5_number 22 = .ok (.goto 4, 3) := by decide +kernel
theorem dX5_number_25 : decode cX5_number 25 = .ok (.iconst 0, 1) := by decide +kernel
theorem dX5_number_26 : decode cX5_number 26 = .ok (.invokevirtual 81, 3) := by decide +kernel
theorem dX5_number_29 : decode cX5_number 29 = .ok (.ireturn, 1) := by decide +kernel
theorem dX5_mayBe_0 : decode cX5_mayBe 0 = .ok (.iload_n 1, 1) := by decide +kernel
theorem dX5_mayBe_1 : decode cX5_mayBe 1 = .ok (.lookupswitch 82 #[(108, 35), (119, 52), (122, 69)], 35) := by decide +kernel
theorem dX5_mayBe_36 : decode cX5_mayBe 36 = .ok (.aload_n 0, 1) := by decide +kernel
theorem dX5_mayBe_37 : decode cX5_mayBe 37 = .ok (.getfield 13, 3) := by decide +kernel
theorem dX5_mayBe_40 : decode cX5_mayBe 40 = .ok (.iconst 1, 1) := by decide +kernel
theorem dX5_mayBe_41 : decode cX5_mayBe 41 = .ok (.iaload, 1) := by decide +kernel
theorem dX5_mayBe_42 : decode cX5_mayBe 42 = .ok (.bipush 6, 2) := by decide +kernel
theorem dX5_mayBe_44 : decode cX5_mayBe 44 = .ok (.if_icmp .ge 7, 3) := by decide +kernel
theorem dX5_mayBe_47 : decode cX5_mayBe 47 = .ok (.iconst 1, 1) := by decide +kernel
theorem dX5_mayBe_48 : decode cX5_mayBe 48 = .ok (.goto 4, 3) := by decide +kernel
theorem dX5_mayBe_51 : decode cX5_mayBe 51 = .ok (.iconst 0, 1) := by decide +kernel
theorem dX5_mayBe_52 : decode cX5_mayBe 52 = .ok (.ireturn, 1) := by decide +kernel
theorem dX5_mayBe_53 : decode cX5_mayBe 53 = .ok (.aload_n 0, 1) := by decide +kernel
theorem dX5_mayBe_54 : decode cX5_mayBe 54 = .ok (.getfield 20, 3) := by decide +kernel
theorem dX5_mayBe_57 : decode cX5_mayBe 57 = .ok (.iconst 1, 1) := by decide +kernel
theorem dX5_mayBe_58 : decode cX5_mayBe 58 = .ok (.iaload, 1) := by decide +kernel
theorem dX5_mayBe_59 : decode cX5_mayBe 59 = .ok (.bipush 10, 2) := by decide +kernel
theorem dX5_mayBe_61 : decode cX5_mayBe 61 = .ok (.if_icmp .ge 7, 3) := by decide +kernel
theorem dX5_mayBe_64 : decode cX5_mayBe 64 = .ok (.iconst 1, 1) := by decide +kernel
theorem dX5_mayBe_65 : decode cX5_mayBe 65 = .ok (.goto 4, 3) := by decide +kernel
theorem dX5_mayBe_68 : decode cX5_mayBe 68 = .ok (.iconst 0, 1) := by decide +kernel
theorem dX5_mayBe_69 : decode cX5_mayBe 69 = .ok (.ireturn, 1) := by decide +kernel
theorem dX5_mayBe_70 : decode cX5_mayBe 70 = .ok (.aload_n 0, 1) := by decide +kernel
theorem dX5_mayBe_71 : decode cX5_mayBe 71 = .ok (.getfield 85, 3) := by decide +kernel
theorem dX5_mayBe_74 : decode cX5_mayBe 74 = .ok (.ifCond .ne 7, 3) := by decide +kernel
theorem dX5_mayBe_77 : decode cX5_mayBe 77 = .ok (.iconst 1, 1) := by decide +kernel
theorem dX5_mayBe_78 : decode cX5_mayBe 78 = .ok (.goto 4, 3) := by decide +kernel
theorem dX5_mayBe_81 : decode cX5_mayBe 81 = .ok (.iconst 0, 1) := by decide +kernel
theorem dX5_mayBe_82 : decode cX5_mayBe 82 = .ok (.ireturn, 1) := by decide +kernel
theorem dX5_mayBe_83 : decode cX5_mayBe 83 = .ok (.iconst 0, 1) := by decide +kernel
theorem dX5_mayBe_84 : decode cX5_mayBe 84 = .ok (.ireturn, 1) := by decide +kernel
theorem dX5_readRow_0 : decode cX5_readRow 0 = .ok (.iload_n 1, 1) := by decide +kernel
theorem dX5_readRow_1 : decode cX5_readRow 1 = .ok (.bipush 108, 2) := by decide +kernel
theorem dX5_readRow_3 : decode cX5_readRow 3 = .ok (.if_icmp .ne 37, 3) := by decide +kernel
theorem dX5_readRow_6 : decode cX5_readRow 6 = .ok (.aload_n 0, 1) := by decide +kernel
theorem dX5_readRow_7 : decode cX5_readRow 7 = .ok (.getfield 17, 3) := by decide +kernel
theorem dX5_readRow_10 : decode cX5_readRow 10 = .ok (.bipush 6, 2) := by decide +kernel
theorem dX5_readRow_12 : decode cX5_readRow 12 = .ok (.aload_n 0, 1) := by decide +kernel
theorem dX5_readRow_13 : decode cX5_readRow 13 = .ok (.getfield 13, 3) := by decide +kernel
theorem dX5_readRow_16 : decode cX5_readRow 16 = .ok (.iconst 1, 1) := by decide +kernel
theorem dX5_readRow_17 : decode cX5_readRow 17 = .ok (.iaload, 1) := by decide +kernel
theorem dX5_readRow_18 : decode cX5_readRow 18 = .ok (.iadd, 1) := by decide +kernel
theorem dX5_readRow_19 : decode cX5_readRow 19 = .ok (.aload_n 0, 1) := by decide +kernel
theorem dX5_readRow_20 : decode cX5_readRow 20 = .ok (.iconst 1, 1) := by decide +kernel
theorem dX5_readRow_21 : decode cX5_readRow 21 = .ok (.bipush 60, 2) := by decide +kernel
theorem dX5_readRow_23 : decode cX5_readRow 23 = .ok (.invokevirtual 89, 3) := by decide +kernel
theorem dX5_readRow_26 : decode cX5_readRow 26 = .ok (.iastore, 1) := by decide +kernel
theorem dX5_readRow_27 : decode cX5_readRow 27 = .ok (.aload_n 0, 1) := by decide +kernel
theorem dX5_readRow_28 : decode cX5_readRow 28 = .ok (.getfield 13, 3) := by decide +kernel
theorem dX5_readRow_31 : decode cX5_readRow 31 = .ok (.iconst 1, 1) := by decide +kernel
theorem dX5_readRow_32 : decode cX5_readRow 32 = .ok (.dup2, 1) := by decide +kernel
theorem dX5_readRow_33 : decode cX5_readRow 33 = .ok (.iaload, 1) := by decide +kernel
theorem dX5_readRow_34 : decode cX5_readRow 34 = .ok (.iconst 1, 1) := by decide +kernel
theorem dX5_readRow_35 : decode cX5_readRow 35 = .ok (.iadd, 1) := by decide +kernel
theorem dX5_readRow_36 : decode cX5_readRow 36 = .ok (.iastore, 1) := by decide +kernel
theorem dX5_readRow_37 : decode cX5_readRow 37 = .ok (.goto 161, 3) := by decide +kernel
theorem dX5_readRow_40 : decode cX5_readRow 40 = .ok (.iload_n 1, 1) := by decide +kernel
theorem dX5_readRow_41 : decode cX5_readRow 41 = .ok (.bipush 119, 2) := by decide +kernel
theorem dX5_readRow_43 : decode cX5_readRow 43 = .ok (.if_icmp .ne 138, 3) := by decide +kernel
theorem dX5_readRow_46 : decode cX5_readRow 46 = .ok (.bipush 50, 2) := by decide +kernel
theorem dX5_readRow_48 : decode cX5_readRow 48 = .ok (.iconst 5, 1) := by decide +kernel
theorem dX5_readRow_49 : decode cX5_readRow 49 = .ok (.aload_n 0, 1) := by decide +kernel
theorem dX5_readRow_50 : decode cX5_readRow 50 = .ok (.getfield 20, 3) := by decide +kernel
theorem dX5_readRow_53 : decode cX5_readRow 53 = .ok (.iconst 1, 1) := by decide +kernel
theorem dX5_readRow_54 : decode cX5_readRow 54 = .ok (.iaload, 1) := by decide +kernel
theorem dX5_readRow_55 : decode cX5_readRow 55 = .ok (.imul, 1) := by decide +kernel
theorem dX5_readRow_56 : decode cX5_readRow 56 = .ok (.iadd, 1) := by decide +kernel
theorem dX5_readRow_57 : decode cX5_readRow 57 = .ok (.istore_n 2, 1) := by decide +kernel
theorem dX5_readRow_58 : decode cX5_readRow 58 = .ok (.aload_n 0, 1) := by decide +kernel
theorem dX5_readRow_59 : decode cX5_readRow 59 = .ok (.iconst 1, 1) := by decide +kernel
theorem dX5_readRow_60 : decode cX5_readRow 60 = .ok (.bipush 12, 2) := by decide +kernel
theorem dX5_readRow_62 : decode cX5_readRow 62 = .ok (.invokevirtual 89, 3) := by decide +kernel
theorem dX5_readRow_65 : decode cX5_readRow 65 = .ok (.istore_n 3, 1) := by decide +kernel
theorem dX5_readRow_66 : decode cX5_readRow 66 = .ok (.aload_n 0, 1) := by decide +kernel
theorem dX5_readRow_67 : decode cX5_readRow 67 = .ok (.getfield 23, 3) := by decide +kernel
theorem dX5_readRow_70 : decode cX5_readRow 70 = .ok (.iload_n 2, 1) := by decide +kernel
theorem dX5_readRow_71 : decode cX5_readRow 71 = .ok (.iconst 0, 1) := by decide +kernel
theorem dX5_readRow_72 : decode cX5_readRow 72 = .ok (.iadd, 1) := by decide +kernel
theorem dX5_readRow_73 : decode cX5_readRow 73 = .ok (.iload_n 3, 1) := by decide +kernel
theorem dX5_readRow_74 : decode cX5_readRow 74 = .ok (.iastore, 1) := by decide +kernel
theorem dX5_readRow_75 : decode cX5_readRow 75 = .ok (.aload_n 0, 1) := by decide +kernel
theorem dX5_readRow_76 : decode cX5_readRow 76 = .ok (.getfield 23, 3) := by decide +kernel
theorem dX5_readRow_79 : decode cX5_readRow 79 = .ok (.iload_n 2, 1) := by decide +kernel
theorem dX5_readRow_80 : decode cX5_readRow 80 = .ok (.iconst 1, 1) := by decide +kernel
theorem dX5_readRow_81 : decode cX5_readRow 81 = .ok (.iadd, 1) := by decide +kernel
theorem dX5_readRow_82 : decode cX5_readRow 82 = .ok (.aload_n 0, 1) := by decide +kernel
theorem dX5_readRow_83 : decode cX5_readRow 83 = .ok (.iconst 0, 1) := by decide +kernel
theorem dX5_readRow_84 : decode cX5_readRow 84 = .ok (.bipush 9, 2) := by decide +kernel
theorem dX5_readRow_86 : decode cX5_readRow 86 = .ok (.invokevirtual 89, 3) := by decide +kernel
theorem dX5_readRow_89 : decode cX5_readRow 89 = .ok (.iastore, 1) := by decide +kernel
theorem dX5_readRow_90 : decode cX5_readRow 90 = .ok (.aload_n 0, 1) := by decide +kernel
theorem dX5_readRow_91 : decode cX5_readRow 91 = .ok (.getfield 23, 3) := by decide +kernel
theorem dX5_readRow_94 : decode cX5_readRow 94 = .ok (.iload_n 2, 1) := by decide +kernel
theorem dX5_readRow_95 : decode cX5_readRow 95 = .ok (.iconst 2, 1) := by decide +kernel
theorem dX5_readRow_96 : decode cX5_readRow 96 = .ok (.iadd, 1) := by decide +kernel
theorem dX5_readRow_97 : decode cX5_readRow 97 = .ok (.aload_n 0, 1) := by decide +kernel
theorem dX5_readRow_98 : decode cX5_readRow 98 = .ok (.aload_n 0, 1) := by decide +kernel
theorem dX5_readRow_99 : decode cX5_readRow 99 = .ok (.getfield 72, 3) := by decide +kernel
theorem dX5_readRow_102 : decode cX5_readRow 102 = .ok (.iconst 1, 1) := by decide +kernel
theorem dX5_readRow_103 : decode cX5_readRow 103 = .ok (.if_icmp .ne 29, 3) := by decide +kernel
theorem dX5_readRow_106 : decode cX5_readRow 106 = .ok (.aload_n 0, 1) := by decide +kernel
theorem dX5_readRow_107 : decode cX5_readRow 107 = .ok (.getfield 69, 3) := by decide +kernel
theorem dX5_readRow_110 : decode cX5_readRow 110 = .ok (.aload_n 0, 1) := by decide +kernel
theorem dX5_readRow_111 : decode cX5_readRow 111 = .ok (.getfield 20, 3) := by decide +kernel
theorem dX5_readRow_114 : decode cX5_readRow 114 = .ok (.iconst 1, 1) := by decide +kernel
theorem dX5_readRow_115 : decode cX5_readRow 115 = .ok (.iaload, 1) := by decide +kernel
theorem dX5_readRow_116 : decode cX5_readRow 116 = .ok (.if_icmp .lt 12, 3) := by decide +kernel
theorem dX5_readRow_119 : decode cX5_readRow 119 = .ok (.aload_n 0, 1) := by decide +kernel
theorem dX5_readRow_120 : decode cX5_readRow 120 = .ok (.getfield 69, 3) := by decide +kernel
theorem dX5_readRow_123 : decode cX5_readRow 123 = .ok (.bipush 99, 2) := by decide +kernel
theorem dX5_readRow_125 : decode cX5_readRow 125 = .ok (.if_icmp .ne 7, 3) := by decide +kernel
theorem dX5_readRow_128 : decode cX5_readRow 128 = .ok (.iconst 1, 1) := by decide +kernel
theorem dX5_readRow_129 : decode cX5_readRow 129 = .ok (.goto 4, 3) := by decide +kernel
theorem dX5_readRow_132 : decode cX5_readRow 132 = .ok (.iconst 0, 1) := by decide +kernel
theorem dX5_readRow_133 : decode cX5_readRow 133 = .ok (.invokevirtual 81, 3) := by decide +kernel
theorem dX5_readRow_136 : decode cX5_readRow 136 = .ok (.iastore, 1) := by decide +kernel
theorem dX5_readRow_137 : decode cX5_readRow 137 = .ok (.aload_n 0, 1) := by decide +kernel
theorem dX5_readRow_138 : decode cX5_readRow 138 = .ok (.getfield 23, 3) := by decide +kernel
theorem dX5_readRow_141 : decode cX5_readRow 141 = .ok (.iload_n 2, 1) := by decide +kernel
theorem dX5_readRow_142 : decode cX5_readRow 142 = .ok (.iconst 3, 1) := by decide +kernel
theorem dX5_readRow_143 : decode cX5_readRow 143 = .ok (.iadd, 1) := by decide +kernel
theorem dX5_readRow_144 : decode cX5_readRow 144 = .ok (.aload_n 0, 1) := by decide +kernel
theorem dX5_readRow_145 : decode cX5_readRow 145 = .ok (.iconst 0, 1) := by decide +kernel
theorem dX5_readRow_146 : decode cX5_readRow 146 = .ok (.bipush 12, 2) := by decide +kernel
theorem dX5_readRow_148 : decode cX5_readRow 148 = .ok (.invokevirtual 89, 3) := by decide +kernel
theorem dX5_readRow_151 : decode cX5_readRow 151 = .ok (.iastore, 1) := by decide +kernel
theorem dX5_readRow_152 : decode cX5_readRow 152 = .ok (.aload_n 0, 1) := by decide +kernel
theorem dX5_readRow_153 : decode cX5_readRow 153 = .ok (.getfield 23, 3) := by decide +kernel
theorem dX5_readRow_156 : decode cX5_readRow 156 = .ok (.iload_n 2, 1) := by decide +kernel
theorem dX5_readRow_157 : decode cX5_readRow 157 = .ok (.iconst 4, 1) := by decide +kernel
theorem dX5_readRow_158 : decode cX5_readRow 158 = .ok (.iadd, 1) := by decide +kernel
theorem dX5_readRow_159 : decode cX5_readRow 159 = .ok (.aload_n 0, 1) := by decide +kernel
theorem dX5_readRow_160 : decode cX5_readRow 160 = .ok (.iconst 0, 1) := by decide +kernel
theorem dX5_readRow_161 : decode cX5_readRow 161 = .ok (.iload_n 3, 1) := by decide +kernel
theorem dX5_readRow_162 : decode cX5_readRow 162 = .ok (.iconst 1, 1) := by decide +kernel
theorem dX5_readRow_163 : decode cX5_readRow 163 = .ok (.isub, 1) := by decide +kernel
theorem dX5_readRow_164 : decode cX5_readRow 164 = .ok (.invokevirtual 89, 3) := by decide +kernel
theorem dX5_readRow_167 : decode cX5_readRow 167 = .ok (.iastore, 1) := by decide +kernel
theorem dX5_readRow_168 : decode cX5_readRow 168 = .ok (.aload_n 0, 1) := by decide +kernel
theorem dX5_readRow_169 : decode cX5_readRow 169 = .ok (.getfield 20, 3) := by decide +kernel
theorem dX5_readRow_172 : decode cX5_readRow 172 = .ok (.iconst 1, 1) := by decide +kernel
theorem dX5_readRow_173 : decode cX5_readRow 173 = .ok (.dup2, 1) := by decide +kernel
theorem dX5_readRow_174 : decode cX5_readRow 174 = .ok (.iaload, 1) := by decide +kernel
theorem dX5_readRow_175 : decode cX5_readRow 175 = .ok (.iconst 1, 1) := by decide +kernel
theorem dX5_readRow_176 : decode cX5_readRow 176 = .ok (.iadd, 1) := by decide +kernel
theorem dX5_readRow_177 : decode cX5_readRow 177 = .ok (.iastore, 1) := by decide +kernel
theorem dX5_readRow_178 : decode cX5_readRow 178 = .ok (.goto 20, 3) := by decide +kernel
theorem dX5_readRow_181 : decode cX5_readRow 181 = .ok (.aload_n 0, 1) := by decide +kernel
theorem dX5_readRow_182 : decode cX5_readRow 182 = .ok (.getfield 26, 3) := by decide +kernel
theorem dX5_readRow_185 : decode cX5_readRow 185 = .ok (.iconst 1, 1) := by decide +kernel
theorem dX5_readRow_186 : decode cX5_readRow 186 = .ok (.aload_n 0, 1) := by decide +kernel
theorem dX5_readRow_187 : decode cX5_readRow 187 = .ok (.iconst 1, 1) := by decide +kernel
theorem dX5_readRow_188 : decode cX5_readRow 188 = .ok (.iconst 5, 1) := by decide +kernel
theorem dX5_readRow_189 : decode cX5_readRow 189 = .ok (.invokevirtual 89, 3) := by decide +kernel
theorem dX5_readRow_192 : decode cX5_readRow 192 = .ok (.iastore, 1) := by decide +kernel
theorem dX5_readRow_193 : decode cX5_readRow 193 = .ok (.aload_n 0, 1) := by decide +kernel
theorem dX5_readRow_194 : decode cX5_readRow 194 = .ok (.iconst 1, 1) := by decide +kernel
theorem dX5_readRow_195 : decode cX5_readRow 195 = .ok (.putfield 85, 3) := by decide +kernel
theorem dX5_readRow_198 : decode cX5_readRow 198 = .ok (.return_, 1) := by decide +kernel
theorem dX5_card_0 : decode cX5_card 0 = .ok (.aload_n 0, 1) := by decide +kernel
theorem dX5_card_1 : decode cX5_card 1 = .ok (.iconst 0, 1) := by decide +kernel
theorem dX5_card_2 : decode cX5_card 2 = .ok (.putfield 59, 3) := by decide +kernel
theorem dX5_card_5 : decode cX5_card 5 = .ok (.aload_n 0, 1) := by decide +kernel
theorem dX5_card_6 : decode cX5_card 6 = .ok (.bipush (-9), 2) := by decide +kernel
theorem dX5_card_8 : decode cX5_card 8 = .ok (.putfield 75, 3) := by decide +kernel
theorem dX5_card_11 : decode cX5_card 11 = .ok (.aload_n 0, 1) := by decide +kernel
theorem dX5_card_12 : decode cX5_card 12 = .ok (.iconst 0, 1) := by decide +kernel
theorem dX5_card_13 : decode cX5_card 13 = .ok (.putfield 85, 3) := by decide +kernel
theorem dX5_card_16 : decode cX5_card 16 = .ok (.aload_n 0, 1) := by decide +kernel
theorem dX5_card_17 : decode cX5_card 17 = .ok (.getfield 13, 3) := by decide +kernel
theorem dX5_card_20 : decode cX5_card 20 = .ok (.iconst 1, 1) := by decide +kernel
theorem dX5_card_21 : decode cX5_card 21 = .ok (.iconst 0, 1) := by decide +kernel
theorem dX5_card_22 : decode cX5_card 22 = .ok (.iastore, 1) := by decide +kernel
theorem dX5_card_23 : decode cX5_card 23 = .ok (.aload_n 0, 1) := by decide +kernel
theorem dX5_card_24 : decode cX5_card 24 = .ok (.getfield 20, 3) := by decide +kernel
theorem dX5_card_27 : decode cX5_card 27 = .ok (.iconst 1, 1) := by decide +kernel
theorem dX5_card_28 : decode cX5_card 28 = .ok (.iconst 0, 1) := by decide +kernel
theorem dX5_card_29 : decode cX5_card 29 = .ok (.iastore, 1) := by decide +kernel
theorem dX5_card_30 : decode cX5_card 30 = .ok (.aload_n 0, 1) := by decide +kernel
theorem dX5_card_31 : decode cX5_card 31 = .ok (.getfield 26, 3) := by decide +kernel
theorem dX5_card_34 : decode cX5_card 34 = .ok (.iconst 1, 1) := by decide +kernel
theorem dX5_card_35 : decode cX5_card 35 = .ok (.iconst 1, 1) := by decide +kernel
theorem dX5_card_36 : decode cX5_card 36 = .ok (.iastore, 1) := by decide +kernel
theorem dX5_card_37 : decode cX5_card 37 = .ok (.iconst 0, 1) := by decide +kernel
theorem dX5_card_38 : decode cX5_card 38 = .ok (.istore_n 1, 1) := by decide +kernel
theorem dX5_card_39 : decode cX5_card 39 = .ok (.aload_n 0, 1) := by decide +kernel
theorem dX5_card_40 : decode cX5_card 40 = .ok (.invokevirtual 78, 3) := by decide +kernel
theorem dX5_card_43 : decode cX5_card 43 = .ok (.aload_n 0, 1) := by decide +kernel
theorem dX5_card_44 : decode cX5_card 44 = .ok (.getfield 75, 3) := by decide +kernel
theorem dX5_card_47 : decode cX5_card 47 = .ok (.bipush (-9), 2) := by decide +kernel
theorem dX5_card_49 : decode cX5_card 49 = .ok (.if_icmp .ne 64, 3) := by decide +kernel
theorem dX5_card_52 : decode cX5_card 52 = .ok (.aload_n 0, 1) := by decide +kernel
theorem dX5_card_53 : decode cX5_card 53 = .ok (.getfield 72, 3) := by decide +kernel
theorem dX5_card_56 : decode cX5_card 56 = .ok (.iconst 3, 1) := by decide +kernel
theorem dX5_card_57 : decode cX5_card 57 = .ok (.if_icmp .eq 56, 3) := by decide +kernel
theorem dX5_card_60 : decode cX5_card 60 = .ok (.aload_n 0, 1) := by decide +kernel
theorem dX5_card_61 : decode cX5_card 61 = .ok (.getfield 72, 3) := by decide +kernel
theorem dX5_card_64 : decode cX5_card 64 = .ok (.istore_n 2, 1) := by decide +kernel
theorem dX5_card_65 : decode cX5_card 65 = .ok (.aload_n 0, 1) := by decide +kernel
theorem dX5_card_66 : decode cX5_card 66 = .ok (.aload_n 0, 1) := by decide +kernel
theorem dX5_card_67 : decode cX5_card 67 = .ok (.iload_n 2, 1) := by decide +kernel
theorem dX5_card_68 : decode cX5_card 68 = .ok (.invokevirtual 93, 3) := by decide +kernel
theorem dX5_card_71 : decode cX5_card 71 = .ok (.invokevirtual 81, 3) := by decide +kernel
theorem dX5_card_74 : decode cX5_card 74 = .ok (.pop, 1) := by decide +kernel
theorem dX5_card_75 : decode cX5_card 75 = .ok (.aload_n 0, 1) := by decide +kernel
theorem dX5_card_76 : decode cX5_card 76 = .ok (.getfield 75, 3) := by decide +kernel
theorem dX5_card_79 : decode cX5_card 79 = .ok (.bipush (-9), 2) := by decide +kernel
theorem dX5_card_81 : decode cX5_card 81 = .ok (.if_icmp .ne 29, 3) := by decide +kernel
theorem dX5_card_84 : decode cX5_card 84 = .ok (.aload_n 0, 1) := by decide +kernel
theorem dX5_card_85 : decode cX5_card 85 = .ok (.iload_n 2, 1) := by decide +kernel
theorem dX5_card_86 : decode cX5_card 86 = .ok (.invokevirtual 97, 3) := by decide +kernel
theorem dX5_card_89 : decode cX5_card 89 = .ok (.aload_n 0, 1) := by decide +kernel
theorem dX5_card_90 : decode cX5_card 90 = .ok (.aload_n 0, 1) := by decide +kernel
theorem dX5_card_91 : decode cX5_card 91 = .ok (.getfield 72, 3) := by decide +kernel
theorem dX5_card_94 : decode cX5_card 94 = .ok (.iconst 2, 1) := by decide +kernel
theorem dX5_card_95 : decode cX5_card 95 = .ok (.if_icmp .ne 7, 3) := by decide +kernel
theorem dX5_card_98 : decode cX5_card 98 = .ok (.iconst 1, 1) := by decide +kernel
theorem dX5_card_99 : decode cX5_card 99 = .ok (.goto 4, 3) := by decide +kernel
theorem dX5_card_102 : decode cX5_card 102 = .ok (.iconst 0, 1) := by decide +kernel
theorem dX5_card_103 : decode cX5_card 103 = .ok (.invokevirtual 81, 3) := by decide +kernel
theorem dX5_card_106 : decode cX5_card 106 = .ok (.pop, 1) := by decide +kernel
theorem dX5_card_107 : decode cX5_card 107 = .ok (.iinc 1 1, 3) := by decide +kernel
theorem dX5_card_110 : decode cX5_card 110 = .ok (.goto (-67), 3) := by decide +kernel
theorem dX5_card_113 : decode cX5_card 113 = .ok (.aload_n 0, 1) := by decide +kernel
theorem dX5_card_114 : decode cX5_card 114 = .ok (.getfield 75, 3) := by decide +kernel
theorem dX5_card_117 : decode cX5_card 117 = .ok (.bipush (-9), 2) := by decide +kernel
theorem dX5_card_119 : decode cX5_card 119 = .ok (.if_icmp .eq 11, 3) := by decide +kernel
theorem dX5_card_122 : decode cX5_card 122 = .ok (.bipush (-10), 2) := by decide +kernel
theorem dX5_card_124 : decode cX5_card 124 = .ok (.aload_n 0, 1) := by decide +kernel
theorem dX5_card_125 : decode cX5_card 125 = .ok (.getfield 75, 3) := by decide +kernel
theorem dX5_card_128 : decode cX5_card 128 = .ok (.isub, 1) := by decide +kernel
theorem dX5_card_129 : decode cX5_card 129 = .ok (.ireturn, 1) := by decide +kernel
theorem dX5_card_130 : decode cX5_card 130 = .ok (.aload_n 0, 1) := by decide +kernel
theorem dX5_card_131 : decode cX5_card 131 = .ok (.getfield 13, 3) := by decide +kernel
theorem dX5_card_134 : decode cX5_card 134 = .ok (.iconst 0, 1) := by decide +kernel
theorem dX5_card_135 : decode cX5_card 135 = .ok (.aload_n 0, 1) := by decide +kernel
theorem dX5_card_136 : decode cX5_card 136 = .ok (.getfield 13, 3) := by decide +kernel
theorem dX5_card_139 : decode cX5_card 139 = .ok (.iconst 1, 1) := by decide +kernel
theorem dX5_card_140 : decode cX5_card 140 = .ok (.iaload, 1) := by decide +kernel
theorem dX5_card_141 : decode cX5_card 141 = .ok (.iastore, 1) := by decide +kernel
theorem dX5_card_142 : decode cX5_card 142 = .ok (.aload_n 0, 1) := by decide +kernel
theorem dX5_card_143 : decode cX5_card 143 = .ok (.getfield 20, 3) := by decide +kernel
theorem dX5_card_146 : decode cX5_card 146 = .ok (.iconst 0, 1) := by decide +kernel
theorem dX5_card_147 : decode cX5_card 147 = .ok (.aload_n 0, 1) := by decide +kernel
theorem dX5_card_148 : decode cX5_card 148 = .ok (.getfield 20, 3) := by decide +kernel
theorem dX5_card_151 : decode cX5_card 151 = .ok (.iconst 1, 1) := by decide +kernel
theorem dX5_card_152 : decode cX5_card 152 = .ok (.iaload, 1) := by decide +kernel
theorem dX5_card_153 : decode cX5_card 153 = .ok (.iastore, 1) := by decide +kernel
theorem dX5_card_154 : decode cX5_card 154 = .ok (.aload_n 0, 1) := by decide +kernel
theorem dX5_card_155 : decode cX5_card 155 = .ok (.getfield 26, 3) := by decide +kernel
theorem dX5_card_158 : decode cX5_card 158 = .ok (.iconst 0, 1) := by decide +kernel
theorem dX5_card_159 : decode cX5_card 159 = .ok (.aload_n 0, 1) := by decide +kernel
theorem dX5_card_160 : decode cX5_card 160 = .ok (.getfield 26, 3) := by decide +kernel
theorem dX5_card_163 : decode cX5_card 163 = .ok (.iconst 1, 1) := by decide +kernel
theorem dX5_card_164 : decode cX5_card 164 = .ok (.iaload, 1) := by decide +kernel
theorem dX5_card_165 : decode cX5_card 165 = .ok (.iastore, 1) := by decide +kernel
theorem dX5_card_166 : decode cX5_card 166 = .ok (.iconst 0, 1) := by decide +kernel
theorem dX5_card_167 : decode cX5_card 167 = .ok (.istore_n 2, 1) := by decide +kernel
theorem dX5_card_168 : decode cX5_card 168 = .ok (.iload_n 2, 1) := by decide +kernel
theorem dX5_card_169 : decode cX5_card 169 = .ok (.bipush 6, 2) := by decide +kernel
theorem dX5_card_171 : decode cX5_card 171 = .ok (.if_icmp .ge 24, 3) := by decide +kernel
theorem dX5_card_174 : decode cX5_card 174 = .ok (.aload_n 0, 1) := by decide +kernel
theorem dX5_card_175 : decode cX5_card 175 = .ok (.getfield 17, 3) := by decide +kernel
theorem dX5_card_178 : decode cX5_card 178 = .ok (.iload_n 2, 1) := by decide +kernel
theorem dX5_card_179 : decode cX5_card 179 = .ok (.aload_n 0, 1) := by decide +kernel
theorem dX5_card_180 : decode cX5_card 180 = .ok (.getfield 17, 3) := by decide +kernel
theorem dX5_card_183 : decode cX5_card 183 = .ok (.bipush 6, 2) := by decide +kernel
theorem dX5_card_185 : decode cX5_card 185 = .ok (.iload_n 2, 1) := by decide +kernel
theorem dX5_card_186 : decode cX5_card 186 = .ok (.iadd, 1) := by decide +kernel
theorem dX5_card_187 : decode cX5_card 187 = .ok (.iaload, 1) := by decide +kernel
theorem dX5_card_188 : decode cX5_card 188 = .ok (.iastore, 1) := by decide +kernel
theorem dX5_card_189 : decode cX5_card 189 = .ok (.iinc 2 1, 3) := by decide +kernel
theorem dX5_card_192 : decode cX5_card 192 = .ok (.goto (-24), 3) := by decide +kernel
theorem dX5_card_195 : decode cX5_card 195 = .ok (.iconst 0, 1) := by decide +kernel
theorem dX5_card_196 : decode cX5_card 196 = .ok (.istore_n 2, 1) := by decide +kernel
theorem dX5_card_197 : decode cX5_card 197 = .ok (.iload_n 2, 1) := by decide +kernel
theorem dX5_card_198 : decode cX5_card 198 = .ok (.bipush 50, 2) := by decide +kernel
theorem dX5_card_200 : decode cX5_card 200 = .ok (.if_icmp .ge 24, 3) := by decide +kernel
theorem dX5_card_203 : decode cX5_card 203 = .ok (.aload_n 0, 1) := by decide +kernel
theorem dX5_card_204 : decode cX5_card 204 = .ok (.getfield 23, 3) := by decide +kernel
theorem dX5_card_207 : decode cX5_card 207 = .ok (.iload_n 2, 1) := by decide +kernel
theorem dX5_card_208 : decode cX5_card 208 = .ok (.aload_n 0, 1) := by decide +kernel
theorem dX5_card_209 : decode cX5_card 209 = .ok (.getfield 23, 3) := by decide +kernel
theorem dX5_card_212 : decode cX5_card 212 = .ok (.bipush 50, 2) := by decide +kernel
theorem dX5_card_214 : decode cX5_card 214 = .ok (.iload_n 2, 1) := by decide +kernel
theorem dX5_card_215 : decode cX5_card 215 = .ok (.iadd, 1) := by decide +kernel
theorem dX5_card_216 : decode cX5_card 216 = .ok (.iaload, 1) := by decide +kernel
theorem dX5_card_217 : decode cX5_card 217 = .ok (.iastore, 1) := by decide +kernel
theorem dX5_card_218 : decode cX5_card 218 = .ok (.iinc 2 1, 3) := by decide +kernel
theorem dX5_card_221 : decode cX5_card 221 = .ok (.goto (-24), 3) := by decide +kernel
theorem dX5_card_224 : decode cX5_card 224 = .ok (.aload_n 0, 1) := by decide +kernel
theorem dX5_card_225 : decode cX5_card 225 = .ok (.getfield 29, 3) := by decide +kernel
theorem dX5_card_228 : decode cX5_card 228 = .ok (.iconst 0, 1) := by decide +kernel
theorem dX5_card_229 : decode cX5_card 229 = .ok (.iconst 0, 1) := by decide +kernel
theorem dX5_card_230 : decode cX5_card 230 = .ok (.iastore, 1) := by decide +kernel
theorem dX5_card_231 : decode cX5_card 231 = .ok (.aload_n 0, 1) := by decide +kernel
theorem dX5_card_232 : decode cX5_card 232 = .ok (.getfield 29, 3) := by decide +kernel
theorem dX5_card_235 : decode cX5_card 235 = .ok (.iconst 1, 1) := by decide +kernel
theorem dX5_card_236 : decode cX5_card 236 = .ok (.iconst 0, 1) := by decide +kernel
theorem dX5_card_237 : decode cX5_card 237 = .ok (.iastore, 1) := by decide +kernel
theorem dX5_card_238 : decode cX5_card 238 = .ok (.aload_n 0, 1) := by decide +kernel
theorem dX5_card_239 : decode cX5_card 239 = .ok (.getfield 29, 3) := by decide +kernel
theorem dX5_card_242 : decode cX5_card 242 = .ok (.iconst 2, 1) := by decide +kernel
theorem dX5_card_243 : decode cX5_card 243 = .ok (.aload_n 0, 1) := by decide +kernel
theorem dX5_card_244 : decode cX5_card 244 = .ok (.getfield 13, 3) := by decide +kernel
theorem dX5_card_247 : decode cX5_card 247 = .ok (.iconst 0, 1) := by decide +kernel
theorem dX5_card_248 : decode cX5_card 248 = .ok (.iaload, 1) := by decide +kernel
theorem dX5_card_249 : decode cX5_card 249 = .ok (.ifCond .le 12, 3) := by decide +kernel
theorem dX5_card_252 : decode cX5_card 252 = .ok (.aload_n 0, 1) := by decide +kernel
theorem dX5_card_253 : decode cX5_card 253 = .ok (.getfield 17, 3) := by decide +kernel
theorem dX5_card_256 : decode cX5_card 256 = .ok (.iconst 0, 1) := by decide +kernel
theorem dX5_card_257 : decode cX5_card 257 = .ok (.iaload, 1) := by decide +kernel
theorem dX5_card_258 : decode cX5_card 258 = .ok (.goto 4, 3) := by decide +kernel
theorem dX5_card_261 : decode cX5_card 261 = .ok (.iconst 0, 1) := by decide +kernel
theorem dX5_card_262 : decode cX5_card 262 = .ok (.iastore, 1) := by decide +kernel
theorem dX5_card_263 : decode cX5_card 263 = .ok (.aload_n 0, 1) := by decide +kernel
theorem dX5_card_264 : decode cX5_card 264 = .ok (.getfield 29, 3) := by decide +kernel
theorem dX5_card_267 : decode cX5_card 267 = .ok (.iconst 3, 1) := by decide +kernel
theorem dX5_card_268 : decode cX5_card 268 = .ok (.iconst 5, 1) := by decide +kernel
theorem dX5_card_269 : decode cX5_card 269 = .ok (.iastore, 1) := by decide +kernel
theorem dX5_card_270 : decode cX5_card 270 = .ok (.aload_n 0, 1) := by decide +kernel
theorem dX5_card_271 : decode cX5_card 271 = .ok (.getfield 29, 3) := by decide +kernel
theorem dX5_card_274 : decode cX5_card 274 = .ok (.iconst 4, 1) := by decide +kernel
theorem dX5_card_275 : decode cX5_card 275 = .ok (.iconst 0, 1) := by decide +kernel
theorem dX5_card_276 : decode cX5_card 276 = .ok (.iastore, 1) := by decide +kernel
theorem dX5_card_277 : decode cX5_card 277 = .ok (.aload_n 0, 1) := by decide +kernel
theorem dX5_card_278 : decode cX5_card 278 = .ok (.getfield 29, 3) := by decide +kernel
theorem dX5_card_281 : decode cX5_card 281 = .ok (.iconst 5, 1) := by decide +kernel
theorem dX5_card_282 : decode cX5_card 282 = .ok (.iconst 0, 1) := by decide +kernel
theorem dX5_card_283 : decode cX5_card 283 = .ok (.iastore, 1) := by decide +kernel
theorem dX5_card_284 : decode cX5_card 284 = .ok (.aload_n 0, 1) := by decide +kernel
theorem dX5_card_285 : decode cX5_card 285 = .ok (.iconst 0, 1) := by decide +kernel
theorem dX5_card_286 : decode cX5_card 286 = .ok (.putfield 101, 3) := by decide +kernel
theorem dX5_card_289 : decode cX5_card 289 = .ok (.aload_n 0, 1) := by decide +kernel
theorem dX5_card_290 : decode cX5_card 290 = .ok (.getfield 32, 3) := by decide +kernel
theorem dX5_card_293 : decode cX5_card 293 = .ok (.iconst 0, 1) := by decide +kernel
theorem dX5_card_294 : decode cX5_card 294 = .ok (.iconst 0, 1) := by decide +kernel
theorem dX5_card_295 : decode cX5_card 295 = .ok (.bastore, 1) := by decide +kernel
theorem dX5_card_296 : decode cX5_card 296 = .ok (.aload_n 0, 1) := by decide +kernel
theorem dX5_card_297 : decode cX5_card 297 = .ok (.getfield 32, 3) := by decide +kernel
theorem dX5_card_300 : decode cX5_card 300 = .ok (.iconst 1, 1) := by decide +kernel
theorem dX5_card_301 : decode cX5_card 301 = .ok (.iconst 0, 1) := by decide +kernel
theorem dX5_card_302 : decode cX5_card 302 = .ok (.bastore, 1) := by decide +kernel
theorem dX5_card_303 : decode cX5_card 303 = .ok (.aload_n 0, 1) := by decide +kernel
theorem dX5_card_304 : decode cX5_card 304 = .ok (.iconst 0, 1) := by decide +kernel
theorem dX5_card_305 : decode cX5_card 305 = .ok (.putfield 55, 3) := by decide +kernel
theorem dX5_card_308 : decode cX5_card 308 = .ok (.iload_n 1, 1) := by decide +kernel
theorem dX5_card_309 : decode cX5_card 309 = .ok (.ireturn, 1) := by decide +kernel
theorem dX5_of_0 : decode cX5_of 0 = .ok (.aload_n 0, 1) := by decide +kernel
theorem dX5_of_1 : decode cX5_of 1 = .ok (.getfield 23, 3) := by decide +kernel
theorem dX5_of_4 : decode cX5_of 4 = .ok (.iconst 5, 1) := by decide +kernel
theorem dX5_of_5 : decode cX5_of 5 = .ok (.iload_n 1, 1) := by decide +kernel
theorem dX5_of_6 : decode cX5_of 6 = .ok (.imul, 1) := by decide +kernel
theorem dX5_of_7 : decode cX5_of 7 = .ok (.iload_n 2, 1) := by decide +kernel
theorem dX5_of_8 : decode cX5_of 8 = .ok (.iadd, 1) := by decide +kernel
theorem dX5_of_9 : decode cX5_of 9 = .ok (.iaload, 1) := by decide +kernel
theorem dX5_of_10 : decode cX5_of 10 = .ok (.ireturn, 1) := by decide +kernel
theorem dX5_isLine_0 : decode cX5_isLine 0 = .ok (.iload_n 1, 1) := by decide +kernel
theorem dX5_isLine_1 : decode cX5_isLine 1 = .ok (.iconst 0, 1) := by decide +kernel
theorem dX5_isLine_2 : decode cX5_isLine 2 = .ok (.aload_n 0, 1) := by decide +kernel
theorem dX5_isLine_3 : decode cX5_isLine 3 = .ok (.getfield 13, 3) := by decide +kernel
theorem dX5_isLine_6 : decode cX5_isLine 6 = .ok (.iconst 0, 1) := by decide +kernel
theorem dX5_isLine_7 : decode cX5_isLine 7 = .ok (.iaload, 1) := by decide +kernel
theorem dX5_isLine_8 : decode cX5_isLine 8 = .ok (.iconst 1, 1) := by decide +kernel
theorem dX5_isLine_9 : decode cX5_isLine 9 = .ok (.isub, 1) := by decide +kernel
theorem dX5_isLine_10 : decode cX5_isLine 10 = .ok (.invokestatic 51, 3) := by decide +kernel
theorem dX5_isLine_13 : decode cX5_isLine 13 = .ok (.ireturn, 1) := by decide +kernel
theorem dX5_isPiece_0 : decode cX5_isPiece 0 = .ok (.iload_n 1, 1) := by decide +kernel
theorem dX5_isPiece_1 : decode cX5_isPiece 1 = .ok (.iconst 0, 1) := by decide +kernel
theorem dX5_isPiece_2 : decode cX5_isPiece 2 = .ok (.aload_n 0, 1) := by decide +kernel
theorem dX5_isPiece_3 : decode cX5_isPiece 3 = .ok (.getfield 20, 3) := by decide +kernel
theorem dX5_isPiece_6 : decode cX5_isPiece 6 = .ok (.iconst 0, 1) := by decide +kernel
theorem dX5_isPiece_7 : decode cX5_isPiece 7 = .ok (.iaload, 1) := by decide +kernel
theorem dX5_isPiece_8 : decode cX5_isPiece 8 = .ok (.iconst 1, 1) := by decide +kernel
theorem dX5_isPiece_9 : decode cX5_isPiece 9 = .ok (.isub, 1) := by decide +kernel
theorem dX5_isPiece_10 : decode cX5_isPiece 10 = .ok (.invokestatic 51, 3) := by decide +kernel
theorem dX5_isPiece_13 : decode cX5_isPiece 13 = .ok (.ireturn, 1) := by decide +kernel
theorem dX5_isSize_0 : decode cX5_isSize 0 = .ok (.iload_n 1, 1) := by decide +kernel
theorem dX5_isSize_1 : decode cX5_isSize 1 = .ok (.aload_n 0, 1) := by decide +kernel
theorem dX5_isSize_2 : decode cX5_isSize 2 = .ok (.getfield 26, 3) := by decide +kernel
theorem dX5_isSize_5 : decode cX5_isSize 5 = .ok (.iconst 0, 1) := by decide +kernel
theorem dX5_isSize_6 : decode cX5_isSize 6 = .ok (.iaload, 1) := by decide +kernel
theorem dX5_isSize_7 : decode cX5_isSize 7 = .ok (.iconst 5, 1) := by decide +kernel
theorem dX5_isSize_8 : decode cX5_isSize 8 = .ok (.invokestatic 51, 3) := by decide +kernel
theorem dX5_isSize_11 : decode cX5_isSize 11 = .ok (.ireturn, 1) := by decide +kernel
theorem dX5_line_0 : decode cX5_line 0 = .ok (.aload_n 0, 1) := by decide +kernel
theorem dX5_line_1 : decode cX5_line 1 = .ok (.iload_n 1, 1) := by decide +kernel
theorem dX5_line_2 : decode cX5_line 2 = .ok (.invokevirtual 104, 3) := by decide +kernel
theorem dX5_line_5 : decode cX5_line 5 = .ok (.ifCond .eq 12, 3) := by decide +kernel
theorem dX5_line_8 : decode cX5_line 8 = .ok (.aload_n 0, 1) := by decide +kernel
theorem dX5_line_9 : decode cX5_line 9 = .ok (.getfield 17, 3) := by decide +kernel
theorem dX5_line_12 : decode cX5_line 12 = .ok (.iload_n 1, 1) := by decide +kernel
theorem dX5_line_13 : decode cX5_line 13 = .ok (.iaload, 1) := by decide +kernel
theorem dX5_line_14 : decode cX5_line 14 = .ok (.goto 4, 3) := by decide +kernel
theorem dX5_line_17 : decode cX5_line 17 = .ok (.iconst (-1), 1) := by decide +kernel
theorem dX5_line_18 : decode cX5_line 18 = .ok (.ireturn, 1) := by decide +kernel
theorem dX5_word_0 : decode cX5_word 0 = .ok (.aload_n 0, 1) := by decide +kernel
theorem dX5_word_1 : decode cX5_word 1 = .ok (.iload_n 1, 1) := by decide +kernel
theorem dX5_word_2 : decode cX5_word 2 = .ok (.invokevirtual 107, 3) := by decide +kernel
theorem dX5_word_5 : decode cX5_word 5 = .ok (.ifCond .eq 12, 3) := by decide +kernel
theorem dX5_word_8 : decode cX5_word 8 = .ok (.iload_n 2, 1) := by decide +kernel
theorem dX5_word_9 : decode cX5_word 9 = .ok (.iconst 0, 1) := by decide +kernel
theorem dX5_word_10 : decode cX5_word 10 = .ok (.iconst 5, 1) := by decide +kernel
theorem dX5_word_11 : decode cX5_word 11 = .ok (.invokestatic 51, 3) := by decide +kernel
theorem dX5_word_14 : decode cX5_word 14 = .ok (.ifCond .ne 5, 3) := by decide +kernel
theorem dX5_word_17 : decode cX5_word 17 = .ok (.iconst (-1), 1) := by decide +kernel
theorem dX5_word_18 : decode cX5_word 18 = .ok (.ireturn, 1) := by decide +kernel
theorem dX5_word_19 : decode cX5_word 19 = .ok (.iload_n 2, 1) := by decide +kernel
theorem dX5_word_20 : decode cX5_word 20 = .ok (.iconst 5, 1) := by decide +kernel
theorem dX5_word_21 : decode cX5_word 21 = .ok (.if_icmp .ne 16, 3) := by decide +kernel
theorem dX5_word_24 : decode cX5_word 24 = .ok (.aload_n 0, 1) := by decide +kernel
theorem dX5_word_25 : decode cX5_word 25 = .ok (.getfield 29, 3) := by decide +kernel
theorem dX5_word_28 : decode cX5_word 28 = .ok (.iconst 4, 1) := by decide +kernel
theorem dX5_word_29 : decode cX5_word 29 = .ok (.iaload, 1) := by decide +kernel
theorem dX5_word_30 : decode cX5_word 30 = .ok (.iload_n 1, 1) := by decide +kernel
theorem dX5_word_31 : decode cX5_word 31 = .ok (.ishr, 1) := by decide +kernel
theorem dX5_word_32 : decode cX5_word 32 = .ok (.iconst 1, 1) := by decide +kernel
theorem dX5_word_33 : decode cX5_word 33 = .ok (.iand, 1) := by decide +kernel
theorem dX5_word_34 : decode cX5_word 34 = .ok (.goto 9, 3) := by decide +kernel
theorem dX5_word_37 : decode cX5_word 37 = .ok (.aload_n 0, 1) := by decide +kernel
theorem dX5_word_38 : decode cX5_word 38 = .ok (.iload_n 1, 1) := by decide +kernel
theorem dX5_word_39 : decode cX5_word 39 = .ok (.iload_n 2, 1) := by decide +kernel
theorem dX5_word_40 : decode cX5_word 40 = .ok (.invokevirtual 110, 3) := by decide +kernel
theorem dX5_word_43 : decode cX5_word 43 = .ok (.ireturn, 1) := by decide +kernel
theorem dX5_know_0 : decode cX5_know 0 = .ok (.aload_n 0, 1) := by decide +kernel
theorem dX5_know_1 : decode cX5_know 1 = .ok (.getfield 29, 3) := by decide +kernel
theorem dX5_know_4 : decode cX5_know 4 = .ok (.iconst 5, 1) := by decide +kernel
theorem dX5_know_5 : decode cX5_know 5 = .ok (.iaload, 1) := by decide +kernel
theorem dX5_know_6 : decode cX5_know 6 = .ok (.bipush 12, 2) := by decide +kernel
theorem dX5_know_8 : decode cX5_know 8 = .ok (.if_icmp .ne 45, 3) := by decide +kernel
theorem dX5_know_11 : decode cX5_know 11 = .ok (.iconst 0, 1) := by decide +kernel
theorem dX5_know_12 : decode cX5_know 12 = .ok (.istore_n 1, 1) := by decide +kernel
theorem dX5_know_13 : decode cX5_know 13 = .ok (.iload_n 1, 1) := by decide +kernel
theorem dX5_know_14 : decode cX5_know 14 = .ok (.bipush 55, 2) := by decide +kernel
theorem dX5_know_16 : decode cX5_know 16 = .ok (.if_icmp .ge 27, 3) := by decide +kernel
theorem dX5_know_19 : decode cX5_know 19 = .ok (.aload_n 0, 1) := by decide +kernel
theorem dX5_know_20 : decode cX5_know 20 = .ok (.getfield 29, 3) := by decide +kernel
theorem dX5_know_23 : decode cX5_know 23 = .ok (.bipush 6, 2) := by decide +kernel
theorem dX5_know_25 : decode cX5_know 25 = .ok (.iload_n 1, 1) := by decide +kernel
theorem dX5_know_26 : decode cX5_know 26 = .ok (.iadd, 1) := by decide +kernel
theorem dX5_know_27 : decode cX5_know 27 = .ok (.aload_n 0, 1) := by decide +kernel
theorem dX5_know_28 : decode cX5_know 28 = .ok (.getfield 29, 3) := by decide +kernel
theorem dX5_know_31 : decode cX5_know 31 = .ok (.bipush 11, 2) := by decide +kernel
theorem dX5_know_33 : decode cX5_know 33 = .ok (.iload_n 1, 1) := by decide +kernel
theorem dX5_know_34 : decode cX5_know 34 = .ok (.iadd, 1) := by decide +kernel
theorem dX5_know_35 : decode cX5_know 35 = .ok (.iaload, 1) := by decide +kernel
theorem dX5_know_36 : decode cX5_know 36 = .ok (.iastore, 1) := by decide +kernel
theorem dX5_know_37 : decode cX5_know 37 = .ok (.iinc 1 1, 3) := by decide +kernel
theorem dX5_know_40 : decode cX5_know 40 = .ok (.goto (-27), 3) := by decide +kernel
theorem dX5_know_43 : decode cX5_know 43 = .ok (.aload_n 0, 1) := by decide +kernel
theorem dX5_know_44 : decode cX5_know 44 = .ok (.getfield 29, 3) := by decide +kernel
theorem dX5_know_47 : decode cX5_know 47 = .ok (.iconst 5, 1) := by decide +kernel
theorem dX5_know_48 : decode cX5_know 48 = .ok (.dup2, 1) := by decide +kernel
theorem dX5_know_49 : decode cX5_know 49 = .ok (.iaload, 1) := by decide +kernel
theorem dX5_know_50 : decode cX5_know 50 = .ok (.iconst 1, 1) := by decide +kernel
theorem dX5_know_51 : decode cX5_know 51 = .ok (.isub, 1) := by decide +kernel
theorem dX5_know_52 : decode cX5_know 52 = .ok (.iastore, 1) := by decide +kernel
theorem dX5_know_53 : decode cX5_know 53 = .ok (.iconst 0, 1) := by decide +kernel
theorem dX5_know_54 : decode cX5_know 54 = .ok (.istore_n 1, 1) := by decide +kernel
theorem dX5_know_55 : decode cX5_know 55 = .ok (.iload_n 1, 1) := by decide +kernel
theorem dX5_know_56 : decode cX5_know 56 = .ok (.iconst 5, 1) := by decide +kernel
theorem dX5_know_57 : decode cX5_know 57 = .ok (.if_icmp .ge 33, 3) := by decide +kernel
theorem dX5_know_60 : decode cX5_know 60 = .ok (.aload_n 0, 1) := by decide +kernel
theorem dX5_know_61 : decode cX5_know 61 = .ok (.getfield 29, 3) := by decide +kernel
theorem dX5_know_64 : decode cX5_know 64 = .ok (.bipush 6, 2) := by decide +kernel
theorem dX5_know_66 : decode cX5_know 66 = .ok (.iconst 5, 1) := by decide +kernel
theorem dX5_know_67 : decode cX5_know 67 = .ok (.aload_n 0, 1) := by decide +kernel
theorem dX5_know_68 : decode cX5_know 68 = .ok (.getfield 29, 3) := by decide +kernel
theorem dX5_know_71 : decode cX5_know 71 = .ok (.iconst 5, 1) := by decide +kernel
theorem dX5_know_72 : decode cX5_know 72 = .ok (.iaload, 1) := by decide +kernel
theorem dX5_know_73 : decode cX5_know 73 = .ok (.imul, 1) := by decide +kernel
theorem dX5_know_74 : decode cX5_know 74 = .ok (.iadd, 1) := by decide +kernel
theorem dX5_know_75 : decode cX5_know 75 = .ok (.iload_n 1, 1) := by decide +kernel
theorem dX5_know_76 : decode cX5_know 76 = .ok (.iadd, 1) := by decide +kernel
theorem dX5_know_77 : decode cX5_know 77 = .ok (.aload_n 0, 1) := by decide +kernel
theorem dX5_know_78 : decode cX5_know 78 = .ok (.getfield 29, 3) := by decide +kernel
theorem dX5_know_81 : decode cX5_know 81 = .ok (.iload_n 1, 1) := by decide +kernel
theorem dX5_know_82 : decode cX5_know 82 = .ok (.iaload, 1) := by decide +kernel
theorem dX5_know_83 : decode cX5_know 83 = .ok (.iastore, 1) := by decide +kernel
theorem dX5_know_84 : decode cX5_know 84 = .ok (.iinc 1 1, 3) := by decide +kernel
theorem dX5_know_87 : decode cX5_know 87 = .ok (.goto (-32), 3) := by decide +kernel
theorem dX5_know_90 : decode cX5_know 90 = .ok (.aload_n 0, 1) := by decide +kernel
theorem dX5_know_91 : decode cX5_know 91 = .ok (.getfield 29, 3) := by decide +kernel
theorem dX5_know_94 : decode cX5_know 94 = .ok (.iconst 5, 1) := by decide +kernel
theorem dX5_know_95 : decode cX5_know 95 = .ok (.dup2, 1) := by decide +kernel
theorem dX5_know_96 : decode cX5_know 96 = .ok (.iaload, 1) := by decide +kernel
theorem dX5_know_97 : decode cX5_know 97 = .ok (.iconst 1, 1) := by decide +kernel
theorem dX5_know_98 : decode cX5_know 98 = .ok (.iadd, 1) := by decide +kernel
theorem dX5_know_99 : decode cX5_know 99 = .ok (.iastore, 1) := by decide +kernel
theorem dX5_know_100 : decode cX5_know 100 = .ok (.return_, 1) := by decide +kernel
theorem dX5_isNext_0 : decode cX5_isNext 0 = .ok (.aload_n 0, 1) := by decide +kernel
theorem dX5_isNext_1 : decode cX5_isNext 1 = .ok (.getfield 29, 3) := by decide +kernel
theorem dX5_isNext_4 : decode cX5_isNext 4 = .ok (.iconst 0, 1) := by decide +kernel
theorem dX5_isNext_5 : decode cX5_isNext 5 = .ok (.iaload, 1) := by decide +kernel
theorem dX5_isNext_6 : decode cX5_isNext 6 = .ok (.aload_n 0, 1) := by decide +kernel
theorem dX5_isNext_7 : decode cX5_isNext 7 = .ok (.getfield 20, 3) := by decide +kernel
theorem dX5_isNext_10 : decode cX5_isNext 10 = .ok (.iconst 0, 1) := by decide +kernel
theorem dX5_isNext_11 : decode cX5_isNext 11 = .ok (.iaload, 1) := by decide +kernel
theorem dX5_isNext_12 : decode cX5_isNext 12 = .ok (.if_icmp .ge 7, 3) := by decide +kernel
theorem dX5_isNext_15 : decode cX5_isNext 15 = .ok (.iconst 1, 1) := by decide +kernel
theorem dX5_isNext_16 : decode cX5_isNext 16 = .ok (.goto 4, 3) := by decide +kernel
theorem dX5_isNext_19 : decode cX5_isNext 19 = .ok (.iconst 0, 1) := by decide +kernel
theorem dX5_isNext_20 : decode cX5_isNext 20 = .ok (.ireturn, 1) := by decide +kernel
theorem dX5_blank_0 : decode cX5_blank 0 = .ok (.aload_n 0, 1) := by decide +kernel
theorem dX5_blank_1 : decode cX5_blank 1 = .ok (.getfield 29, 3) := by decide +kernel
theorem dX5_blank_4 : decode cX5_blank 4 = .ok (.iconst 2, 1) := by decide +kernel
theorem dX5_blank_5 : decode cX5_blank 5 = .ok (.iaload, 1) := by decide +kernel
theorem dX5_blank_6 : decode cX5_blank 6 = .ok (.aload_n 0, 1) := by decide +kernel
theorem dX5_blank_7 : decode cX5_blank 7 = .ok (.getfield 17, 3) := by decide +kernel
theorem dX5_blank_10 : decode cX5_blank 10 = .ok (.aload_n 0, 1) := by decide +kernel
theorem dX5_blank_11 : decode cX5_blank 11 = .ok (.getfield 29, 3) := by decide +kernel
theorem dX5_blank_14 : decode cX5_blank 14 = .ok (.iconst 1, 1) := by decide +kernel
theorem dX5_blank_15 : decode cX5_blank 15 = .ok (.iaload, 1) := by decide +kernel
theorem dX5_blank_16 : decode cX5_blank 16 = .ok (.iaload, 1) := by decide +kernel
theorem dX5_blank_17 : decode cX5_blank 17 = .ok (.if_icmp .ne 7, 3) := by decide +kernel
theorem dX5_blank_20 : decode cX5_blank 20 = .ok (.iconst 0, 1) := by decide +kernel
theorem dX5_blank_21 : decode cX5_blank 21 = .ok (.goto 4, 3) := by decide +kernel
theorem dX5_blank_24 : decode cX5_blank 24 = .ok (.iconst 1, 1) := by decide +kernel
theorem dX5_blank_25 : decode cX5_blank 25 = .ok (.ireturn, 1) := by decide +kernel
theorem dX5_put_0 : decode cX5_put 0 = .ok (.iload_n 1, 1) := by decide +kernel
theorem dX5_put_1 : decode cX5_put 1 = .ok (.aload_n 0, 1) := by decide +kernel
theorem dX5_put_2 : decode cX5_put 2 = .ok (.invokevirtual 113, 3) := by decide +kernel
theorem dX5_put_5 : decode cX5_put 5 = .ok (.iadd, 1) := by decide +kernel
theorem dX5_put_6 : decode cX5_put 6 = .ok (.aload_n 0, 1) := by decide +kernel
theorem dX5_put_7 : decode cX5_put 7 = .ok (.getfield 29, 3) := by decide +kernel
theorem dX5_put_10 : decode cX5_put 10 = .ok (.iconst 3, 1) := by decide +kernel
theorem dX5_put_11 : decode cX5_put 11 = .ok (.iaload, 1) := by decide +kernel
theorem dX5_put_12 : decode cX5_put 12 = .ok (.imul, 1) := by decide +kernel
theorem dX5_put_13 : decode cX5_put 13 = .ok (.istore_n 2, 1) := by decide +kernel
theorem dX5_put_14 : decode cX5_put 14 = .ok (.iload_n 2, 1) := by decide +kernel
theorem dX5_put_15 : decode cX5_put 15 = .ok (.aload_n 0, 1) := by decide +kernel
theorem dX5_put_16 : decode cX5_put 16 = .ok (.getfield 29, 3) := by decide +kernel
theorem dX5_put_19 : decode cX5_put 19 = .ok (.iconst 2, 1) := by decide +kernel
theorem dX5_put_20 : decode cX5_put 20 = .ok (.iaload, 1) := by decide +kernel
theorem dX5_put_21 : decode cX5_put 21 = .ok (.if_icmp .le 6, 3) := by decide +kernel
theorem dX5_put_24 : decode cX5_put 24 = .ok (.bipush (-2), 2) := by decide +kernel
theorem dX5_put_26 : decode cX5_put 26 = .ok (.ireturn, 1) := by decide +kernel
theorem dX5_put_27 : decode cX5_put 27 = .ok (.aload_n 0, 1) := by decide +kernel
theorem dX5_put_28 : decode cX5_put 28 = .ok (.invokevirtual 116, 3) := by decide +kernel
theorem dX5_put_31 : decode cX5_put 31 = .ok (.aload_n 0, 1) := by decide +kernel
theorem dX5_put_32 : decode cX5_put 32 = .ok (.getfield 29, 3) := by decide +kernel
theorem dX5_put_35 : decode cX5_put 35 = .ok (.iconst 2, 1) := by decide +kernel
theorem dX5_put_36 : decode cX5_put 36 = .ok (.dup2, 1) := by decide +kernel
theorem dX5_put_37 : decode cX5_put 37 = .ok (.iaload, 1) := by decide +kernel
theorem dX5_put_38 : decode cX5_put 38 = .ok (.iload_n 2, 1) := by decide +kernel
theorem dX5_put_39 : decode cX5_put 39 = .ok (.isub, 1) := by decide +kernel
theorem dX5_put_40 : decode cX5_put 40 = .ok (.iastore, 1) := by decide +kernel
theorem dX5_put_41 : decode cX5_put 41 = .ok (.aload_n 0, 1) := by decide +kernel
theorem dX5_put_42 : decode cX5_put 42 = .ok (.getfield 29, 3) := by decide +kernel
theorem dX5_put_45 : decode cX5_put 45 = .ok (.iconst 0, 1) := by decide +kernel
theorem dX5_put_46 : decode cX5_put 46 = .ok (.dup2, 1) := by decide +kernel
theorem dX5_put_47 : decode cX5_put 47 = .ok (.iaload, 1) := by decide +kernel
theorem dX5_put_48 : decode cX5_put 48 = .ok (.iconst 1, 1) := by decide +kernel
theorem dX5_put_49 : decode cX5_put 49 = .ok (.iadd, 1) := by decide +kernel
theorem dX5_put_50 : decode cX5_put 50 = .ok (.iastore, 1) := by decide +kernel
theorem dX5_put_51 : decode cX5_put 51 = .ok (.aload_n 0, 1) := by decide +kernel
theorem dX5_put_52 : decode cX5_put 52 = .ok (.getfield 29, 3) := by decide +kernel
theorem dX5_put_55 : decode cX5_put 55 = .ok (.iconst 2, 1) := by decide +kernel
theorem dX5_put_56 : decode cX5_put 56 = .ok (.iaload, 1) := by decide +kernel
theorem dX5_put_57 : decode cX5_put 57 = .ok (.ireturn, 1) := by decide +kernel
theorem dX5_writes_0 : decode cX5_writes 0 = .ok (.aload_n 0, 1) := by decide +kernel
theorem dX5_writes_1 : decode cX5_writes 1 = .ok (.invokevirtual 119, 3) := by decide +kernel
theorem dX5_writes_4 : decode cX5_writes 4 = .ok (.ifCond .eq 30, 3) := by decide +kernel
theorem dX5_writes_7 : decode cX5_writes 7 = .ok (.aload_n 0, 1) := by decide +kernel
theorem dX5_writes_8 : decode cX5_writes 8 = .ok (.getfield 13, 3) := by decide +kernel
theorem dX5_writes_11 : decode cX5_writes 11 = .ok (.iconst 0, 1) := by decide +kernel
theorem dX5_writes_12 : decode cX5_writes 12 = .ok (.iaload, 1) := by decide +kernel
theorem dX5_writes_13 : decode cX5_writes 13 = .ok (.ifCond .le 21, 3) := by decide +kernel
theorem dX5_writes_16 : decode cX5_writes 16 = .ok (.aload_n 0, 1) := by decide +kernel
theorem dX5_writes_17 : decode cX5_writes 17 = .ok (.aload_n 0, 1) := by decide +kernel
theorem dX5_writes_18 : decode cX5_writes 18 = .ok (.aload_n 0, 1) := by decide +kernel
theorem dX5_writes_19 : decode cX5_writes 19 = .ok (.getfield 29, 3) := by decide +kernel
theorem dX5_writes_22 : decode cX5_writes 22 = .ok (.iconst 0, 1) := by decide +kernel
theorem dX5_writes_23 : decode cX5_writes 23 = .ok (.iaload, 1) := by decide +kernel
theorem dX5_writes_24 : decode cX5_writes 24 = .ok (.iconst 0, 1) := by decide +kernel
theorem dX5_writes_25 : decode cX5_writes 25 = .ok (.invokevirtual 110, 3) := by decide +kernel
theorem dX5_writes_28 : decode cX5_writes 28 = .ok (.invokevirtual 123, 3) := by decide +kernel
theorem dX5_writes_31 : decode cX5_writes 31 = .ok (.goto 5, 3) := by decide +kernel
theorem dX5_writes_34 : decode cX5_writes 34 = .ok (.bipush (-2), 2) := by decide +kernel
theorem dX5_writes_36 : decode cX5_writes 36 = .ok (.ireturn, 1) := by decide +kernel
theorem dX5_signs_0 : decode cX5_signs 0 = .ok (.aload_n 0, 1) := by decide +kernel
theorem dX5_signs_1 : decode cX5_signs 1 = .ok (.invokevirtual 119, 3) := by decide +kernel
theorem dX5_signs_4 : decode cX5_signs 4 = .ok (.ifCond .eq 44, 3) := by decide +kernel
theorem dX5_signs_7 : decode cX5_signs 7 = .ok (.aload_n 0, 1) := by decide +kernel
theorem dX5_signs_8 : decode cX5_signs 8 = .ok (.getfield 13, 3) := by decide +kernel
theorem dX5_signs_11 : decode cX5_signs 11 = .ok (.iconst 0, 1) := by decide +kernel
theorem dX5_signs_12 : decode cX5_signs 12 = .ok (.iaload, 1) := by decide +kernel
theorem dX5_signs_13 : decode cX5_signs 13 = .ok (.ifCond .le 35, 3) := by decide +kernel
theorem dX5_signs_16 : decode cX5_signs 16 = .ok (.aload_n 0, 1) := by decide +kernel
theorem dX5_signs_17 : decode cX5_signs 17 = .ok (.aload_n 0, 1) := by decide +kernel
theorem dX5_signs_18 : decode cX5_signs 18 = .ok (.getfield 29, 3) := by decide +kernel
theorem dX5_signs_21 : decode cX5_signs 21 = .ok (.iconst 0, 1) := by decide +kernel
theorem dX5_signs_22 : decode cX5_signs 22 = .ok (.iaload, 1) := by decide +kernel
theorem dX5_signs_23 : decode cX5_signs 23 = .ok (.iconst 3, 1) := by decide +kernel
theorem dX5_signs_24 : decode cX5_signs 24 = .ok (.invokevirtual 110, 3) := by decide +kernel
theorem dX5_signs_27 : decode cX5_signs 27 = .ok (.ifCond .le 21, 3) := by decide +kernel
theorem dX5_signs_30 : decode cX5_signs 30 = .ok (.aload_n 0, 1) := by decide +kernel
theorem dX5_signs_31 : decode cX5_signs 31 = .ok (.aload_n 0, 1) := by decide +kernel
theorem dX5_signs_32 : decode cX5_signs 32 = .ok (.aload_n 0, 1) := by decide +kernel
theorem dX5_signs_33 : decode cX5_signs 33 = .ok (.getfield 29, 3) := by decide +kernel
theorem dX5_signs_36 : decode cX5_signs 36 = .ok (.iconst 0, 1) := by decide +kernel
theorem dX5_signs_37 : decode cX5_signs 37 = .ok (.iaload, 1) := by decide +kernel
theorem dX5_signs_38 : decode cX5_signs 38 = .ok (.iconst 3, 1) := by decide +kernel
theorem dX5_signs_39 : decode cX5_signs 39 = .ok (.invokevirtual 110, 3) := by decide +kernel
theorem dX5_signs_42 : decode cX5_signs 42 = .ok (.invokevirtual 123, 3) := by decide +kernel
theorem dX5_signs_45 : decode cX5_signs 45 = .ok (.goto 5, 3) := by decide +kernel
theorem dX5_signs_48 : decode cX5_signs 48 = .ok (.bipush (-2), 2) := by decide +kernel
theorem dX5_signs_50 : decode cX5_signs 50 = .ok (.ireturn, 1) := by decide +kernel
theorem dX5_breaks_0 : decode cX5_breaks 0 = .ok (.aload_n 0, 1) := by decide +kernel
theorem dX5_breaks_1 : decode cX5_breaks 1 = .ok (.invokevirtual 119, 3) := by decide +kernel
theorem dX5_breaks_4 : decode cX5_breaks 4 = .ok (.ifCond .eq 32, 3) := by decide +kernel
theorem dX5_breaks_7 : decode cX5_breaks 7 = .ok (.aload_n 0, 1) := by decide +kernel
theorem dX5_breaks_8 : decode cX5_breaks 8 = .ok (.aload_n 0, 1) := by decide +kernel
theorem dX5_breaks_9 : decode cX5_breaks 9 = .ok (.getfield 29, 3) := by decide +kernel
theorem dX5_breaks_12 : decode cX5_breaks 12 = .ok (.iconst 1, 1) := by decide +kernel
theorem dX5_breaks_13 : decode cX5_breaks 13 = .ok (.iaload, 1) := by decide +kernel
theorem dX5_breaks_14 : decode cX5_breaks 14 = .ok (.iconst 1, 1) := by decide +kernel
theorem dX5_breaks_15 : decode cX5_breaks 15 = .ok (.iadd, 1) := by decide +kernel
theorem dX5_breaks_16 : decode cX5_breaks 16 = .ok (.invokevirtual 104, 3) := by decide +kernel
theorem dX5_breaks_19 : decode cX5_breaks 19 = .ok (.ifCond .eq 17, 3) := by decide +kernel
theorem dX5_breaks_22 : decode cX5_breaks 22 = .ok (.aload_n 0, 1) := by decide +kernel
theorem dX5_breaks_23 : decode cX5_breaks 23 = .ok (.aload_n 0, 1) := by decide +kernel
theorem dX5_breaks_24 : decode cX5_breaks 24 = .ok (.getfield 29, 3) := by decide +kernel
theorem dX5_breaks_27 : decode cX5_breaks 27 = .ok (.iconst 0, 1) := by decide +kernel
theorem dX5_breaks_28 : decode cX5_breaks 28 = .ok (.iaload, 1) := by decide +kernel
theorem dX5_breaks_29 : decode cX5_breaks 29 = .ok (.iconst 4, 1) := by decide +kernel
theorem dX5_breaks_30 : decode cX5_breaks 30 = .ok (.invokevirtual 110, 3) := by decide +kernel
theorem dX5_breaks_33 : decode cX5_breaks 33 = .ok (.ifCond .ne 6, 3) := by decide +kernel
theorem dX5_breaks_36 : decode cX5_breaks 36 = .ok (.bipush (-2), 2) := by decide +kernel
theorem dX5_breaks_38 : decode cX5_breaks 38 = .ok (.ireturn, 1) := by decide +kernel
theorem dX5_breaks_39 : decode cX5_breaks 39 = .ok (.aload_n 0, 1) := by decide +kernel
theorem dX5_breaks_40 : decode cX5_breaks 40 = .ok (.aload_n 0, 1) := by decide +kernel
theorem dX5_breaks_41 : decode cX5_breaks 41 = .ok (.getfield 29, 3) := by decide +kernel
theorem dX5_breaks_44 : decode cX5_breaks 44 = .ok (.iconst 0, 1) := by decide +kernel
theorem dX5_breaks_45 : decode cX5_breaks 45 = .ok (.iaload, 1) := by decide +kernel
theorem dX5_breaks_46 : decode cX5_breaks 46 = .ok (.iconst 4, 1) := by decide +kernel
theorem dX5_breaks_47 : decode cX5_breaks 47 = .ok (.invokevirtual 110, 3) := by decide +kernel
theorem dX5_breaks_50 : decode cX5_breaks 50 = .ok (.istore_n 1, 1) := by decide +kernel
theorem dX5_breaks_51 : decode cX5_breaks 51 = .ok (.iload_n 1, 1) := by decide +kernel
theorem dX5_breaks_52 : decode cX5_breaks 52 = .ok (.iconst 1, 1) := by decide +kernel
theorem dX5_breaks_53 : decode cX5_breaks 53 = .ok (.iadd, 1) := by decide +kernel
theorem dX5_breaks_54 : decode cX5_breaks 54 = .ok (.aload_n 0, 1) := by decide +kernel
theorem dX5_breaks_55 : decode cX5_breaks 55 = .ok (.invokevirtual 113, 3) := by decide +kernel
theorem dX5_breaks_58 : decode cX5_breaks 58 = .ok (.iadd, 1) := by decide +kernel
theorem dX5_breaks_59 : decode cX5_breaks 59 = .ok (.aload_n 0, 1) := by decide +kernel
theorem dX5_breaks_60 : decode cX5_breaks 60 = .ok (.getfield 29, 3) := by decide +kernel
theorem dX5_breaks_63 : decode cX5_breaks 63 = .ok (.iconst 3, 1) := by decide +kernel
theorem dX5_breaks_64 : decode cX5_breaks 64 = .ok (.iaload, 1) := by decide +kernel
theorem dX5_breaks_65 : decode cX5_breaks 65 = .ok (.imul, 1) := by decide +kernel
theorem dX5_breaks_66 : decode cX5_breaks 66 = .ok (.istore_n 2, 1) := by decide +kernel
theorem dX5_breaks_67 : decode cX5_breaks 67 = .ok (.aload_n 0, 1) := by decide +kernel
theorem dX5_breaks_68 : decode cX5_breaks 68 = .ok (.aload_n 0, 1) := by decide +kernel
theorem dX5_breaks_69 : decode cX5_breaks 69 = .ok (.getfield 29, 3) := by decide +kernel
theorem dX5_breaks_72 : decode cX5_breaks 72 = .ok (.iconst 0, 1) := by decide +kernel
theorem dX5_breaks_73 : decode cX5_breaks 73 = .ok (.iaload, 1) := by decide +kernel
theorem dX5_breaks_74 : decode cX5_breaks 74 = .ok (.iconst 0, 1) := by decide +kernel
theorem dX5_breaks_75 : decode cX5_breaks 75 = .ok (.invokevirtual 110, 3) := by decide +kernel
theorem dX5_breaks_78 : decode cX5_breaks 78 = .ok (.iload_n 1, 1) := by decide +kernel
theorem dX5_breaks_79 : decode cX5_breaks 79 = .ok (.isub, 1) := by decide +kernel
theorem dX5_breaks_80 : decode cX5_breaks 80 = .ok (.aload_n 0, 1) := by decide +kernel
theorem dX5_breaks_81 : decode cX5_breaks 81 = .ok (.getfield 29, 3) := by decide +kernel
theorem dX5_breaks_84 : decode cX5_breaks 84 = .ok (.iconst 3, 1) := by decide +kernel
theorem dX5_breaks_85 : decode cX5_breaks 85 = .ok (.iaload, 1) := by decide +kernel
theorem dX5_breaks_86 : decode cX5_breaks 86 = .ok (.imul, 1) := by decide +kernel
theorem dX5_breaks_87 : decode cX5_breaks 87 = .ok (.istore_n 3, 1) := by decide +kernel
theorem dX5_breaks_88 : decode cX5_breaks 88 = .ok (.iload_n 2, 1) := by decide +kernel
theorem dX5_breaks_89 : decode cX5_breaks 89 = .ok (.aload_n 0, 1) := by decide +kernel
theorem dX5_breaks_90 : decode cX5_breaks 90 = .ok (.getfield 29, 3) := by decide +kernel
theorem dX5_breaks_93 : decode cX5_breaks 93 = .ok (.iconst 2, 1) := by decide +kernel
theorem dX5_breaks_94 : decode cX5_breaks 94 = .ok (.iaload, 1) := by decide +kernel
theorem dX5_breaks_95 : decode cX5_breaks 95 = .ok (.if_icmp .gt 20, 3) := by decide +kernel
theorem dX5_breaks_98 : decode cX5_breaks 98 = .ok (.iload_n 3, 1) := by decide +kernel
theorem dX5_breaks_99 : decode cX5_breaks 99 = .ok (.aload_n 0, 1) := by decide +kernel
theorem dX5_breaks_100 : decode cX5_breaks 100 = .ok (.getfield 17, 3) := by decide +kernel
theorem dX5_breaks_103 : decode cX5_breaks 103 = .ok (.aload_n 0, 1) := by decide +kernel
theorem dX5_breaks_104 : decode cX5_breaks 104 = .ok (.getfield 29, 3) := by decide +kernel
theorem dX5_breaks_107 : decode cX5_breaks 107 = .ok (.iconst 1, 1) := by decide +kernel
theorem dX5_breaks_108 : decode cX5_breaks 108 = .ok (.iaload, 1) := by decide +kernel
theorem dX5_breaks_109 : decode cX5_breaks 109 = .ok (.iconst 1, 1) := by decide +kernel
theorem dX5_breaks_110 : decode cX5_breaks 110 = .ok (.iadd, 1) := by decide +kernel
theorem dX5_breaks_111 : decode cX5_breaks 111 = .ok (.iaload, 1) := by decide +kernel
theorem dX5_breaks_112 : decode cX5_breaks 112 = .ok (.if_icmp .le 6, 3) := by decide +kernel
theorem dX5_breaks_115 : decode cX5_breaks 115 = .ok (.bipush (-2), 2) := by decide +kernel
theorem dX5_breaks_117 : decode cX5_breaks 117 = .ok (.ireturn, 1) := by decide +kernel
theorem dX5_breaks_118 : decode cX5_breaks 118 = .ok (.aload_n 0, 1) := by decide +kernel
theorem dX5_breaks_119 : decode cX5_breaks 119 = .ok (.invokevirtual 116, 3) := by decide +kernel
theorem dX5_breaks_122 : decode cX5_breaks 122 = .ok (.aload_n 0, 1) := by decide +kernel
theorem dX5_breaks_123 : decode cX5_breaks 123 = .ok (.getfield 29, 3) := by decide +kernel
theorem dX5_breaks_126 : decode cX5_breaks 126 = .ok (.iconst 1, 1) := by decide +kernel
theorem dX5_breaks_127 : decode cX5_breaks 127 = .ok (.dup2, 1) := by decide +kernel
theorem dX5_breaks_128 : decode cX5_breaks 128 = .ok (.iaload, 1) := by decide +kernel
theorem dX5_breaks_129 : decode cX5_breaks 129 = .ok (.iconst 1, 1) := by decide +kernel
theorem dX5_breaks_130 : decode cX5_breaks 130 = .ok (.iadd, 1) := by decide +kernel
theorem dX5_breaks_131 : decode cX5_breaks 131 = .ok (.iastore, 1) := by decide +kernel
theorem dX5_breaks_132 : decode cX5_breaks 132 = .ok (.aload_n 0, 1) := by decide +kernel
theorem dX5_breaks_133 : decode cX5_breaks 133 = .ok (.getfield 29, 3) := by decide +kernel
theorem dX5_breaks_136 : decode cX5_breaks 136 = .ok (.iconst 2, 1) := by decide +kernel
theorem dX5_breaks_137 : decode cX5_breaks 137 = .ok (.aload_n 0, 1) := by decide +kernel
theorem dX5_breaks_138 : decode cX5_breaks 138 = .ok (.getfield 17, 3) := by decide +kernel
theorem dX5_breaks_141 : decode cX5_breaks 141 = .ok (.aload_n 0, 1) := by decide +kernel
theorem dX5_breaks_142 : decode cX5_breaks 142 = .ok (.getfield 29, 3) := by decide +kernel
theorem dX5_breaks_145 : decode cX5_breaks 145 = .ok (.iconst 1, 1) := by decide +kernel
theorem dX5_breaks_146 : decode cX5_breaks 146 = .ok (.iaload, 1) := by decide +kernel
theorem dX5_breaks_147 : decode cX5_breaks 147 = .ok (.iaload, 1) := by decide +kernel
theorem dX5_breaks_148 : decode cX5_breaks 148 = .ok (.iload_n 3, 1) := by decide +kernel
theorem dX5_breaks_149 : decode cX5_breaks 149 = .ok (.isub, 1) := by decide +kernel
theorem dX5_breaks_150 : decode cX5_breaks 150 = .ok (.iastore, 1) := by decide +kernel
theorem dX5_breaks_151 : decode cX5_breaks 151 = .ok (.aload_n 0, 1) := by decide +kernel
theorem dX5_breaks_152 : decode cX5_breaks 152 = .ok (.getfield 29, 3) := by decide +kernel
theorem dX5_breaks_155 : decode cX5_breaks 155 = .ok (.iconst 0, 1) := by decide +kernel
theorem dX5_breaks_156 : decode cX5_breaks 156 = .ok (.dup2, 1) := by decide +kernel
theorem dX5_breaks_157 : decode cX5_breaks 157 = .ok (.iaload, 1) := by decide +kernel
theorem dX5_breaks_158 : decode cX5_breaks 158 = .ok (.iconst 1, 1) := by decide +kernel
theorem dX5_breaks_159 : decode cX5_breaks 159 = .ok (.iadd, 1) := by decide +kernel
theorem dX5_breaks_160 : decode cX5_breaks 160 = .ok (.iastore, 1) := by decide +kernel
theorem dX5_breaks_161 : decode cX5_breaks 161 = .ok (.aload_n 0, 1) := by decide +kernel
theorem dX5_breaks_162 : decode cX5_breaks 162 = .ok (.getfield 29, 3) := by decide +kernel
theorem dX5_breaks_165 : decode cX5_breaks 165 = .ok (.iconst 2, 1) := by decide +kernel
theorem dX5_breaks_166 : decode cX5_breaks 166 = .ok (.iaload, 1) := by decide +kernel
theorem dX5_breaks_167 : decode cX5_breaks 167 = .ok (.ireturn, 1) := by decide +kernel
theorem dX5_manyOf_0 : decode cX5_manyOf 0 = .ok (.iconst 0, 1) := by decide +kernel
theorem dX5_manyOf_1 : decode cX5_manyOf 1 = .ok (.istore_n 1, 1) := by decide +kernel
theorem dX5_manyOf_2 : decode cX5_manyOf 2 = .ok (.iconst 0, 1) := by decide +kernel
theorem dX5_manyOf_3 : decode cX5_manyOf 3 = .ok (.istore_n 2, 1) := by decide +kernel
theorem dX5_manyOf_4 : decode cX5_manyOf 4 = .ok (.iload_n 2, 1) := by decide +kernel
theorem dX5_manyOf_5 : decode cX5_manyOf 5 = .ok (.bipush 10, 2) := by decide +kernel
theorem dX5_manyOf_7 : decode cX5_manyOf 7 = .ok (.if_icmp .ge 17, 3) := by decide +kernel
theorem dX5_manyOf_10 : decode cX5_manyOf 10 = .ok (.iload_n 1, 1) := by decide +kernel
theorem dX5_manyOf_11 : decode cX5_manyOf 11 = .ok (.iload_n 0, 1) := by decide +kernel
theorem dX5_manyOf_12 : decode cX5_manyOf 12 = .ok (.iload_n 2, 1) := by decide +kernel
theorem dX5_manyOf_13 : decode cX5_manyOf 13 = .ok (.ishr, 1) := by decide +kernel
theorem dX5_manyOf_14 : decode cX5_manyOf 14 = .ok (.iconst 1, 1) := by decide +kernel
theorem dX5_manyOf_15 : decode cX5_manyOf 15 = .ok (.iand, 1) := by decide +kernel
theorem dX5_manyOf_16 : decode cX5_manyOf 16 = .ok (.iadd, 1) := by decide +kernel
theorem dX5_manyOf_17 : decode cX5_manyOf 17 = .ok (.istore_n 1, 1) := by decide +kernel
theorem dX5_manyOf_18 : decode cX5_manyOf 18 = .ok (.iinc 2 1, 3) := by decide +kernel
theorem dX5_manyOf_21 : decode cX5_manyOf 21 = .ok (.goto (-17), 3) := by decide +kernel
theorem dX5_manyOf_24 : decode cX5_manyOf 24 = .ok (.iload_n 1, 1) := by decide +kernel
theorem dX5_manyOf_25 : decode cX5_manyOf 25 = .ok (.ireturn, 1) := by decide +kernel
theorem dX5_omits_0 : decode cX5_omits 0 = .ok (.aload_n 0, 1) := by decide +kernel
theorem dX5_omits_1 : decode cX5_omits 1 = .ok (.invokevirtual 119, 3) := by decide +kernel
theorem dX5_omits_4 : decode cX5_omits 4 = .ok (.ifCond .ne 6, 3) := by decide +kernel
theorem dX5_omits_7 : decode cX5_omits 7 = .ok (.bipush (-2), 2) := by decide +kernel
theorem dX5_omits_9 : decode cX5_omits 9 = .ok (.ireturn, 1) := by decide +kernel
theorem dX5_omits_10 : decode cX5_omits 10 = .ok (.aload_n 0, 1) := by decide +kernel
theorem dX5_omits_11 : decode cX5_omits 11 = .ok (.invokevirtual 116, 3) := by decide +kernel
theorem dX5_omits_14 : decode cX5_omits 14 = .ok (.aload_n 0, 1) := by decide +kernel
theorem dX5_omits_15 : decode cX5_omits 15 = .ok (.getfield 29, 3) := by decide +kernel
theorem dX5_omits_18 : decode cX5_omits 18 = .ok (.iconst 4, 1) := by decide +kernel
theorem dX5_omits_19 : decode cX5_omits 19 = .ok (.dup2, 1) := by decide +kernel
theorem dX5_omits_20 : decode cX5_omits 20 = .ok (.iaload, 1) := by decide +kernel
theorem dX5_omits_21 : decode cX5_omits 21 = .ok (.iconst 1, 1) := by decide +kernel
theorem dX5_omits_22 : decode cX5_omits 22 = .ok (.aload_n 0, 1) := by decide +kernel
theorem dX5_omits_23 : decode cX5_omits 23 = .ok (.getfield 29, 3) := by decide +kernel
theorem dX5_omits_26 : decode cX5_omits 26 = .ok (.iconst 0, 1) := by decide +kernel
theorem dX5_omits_27 : decode cX5_omits 27 = .ok (.iaload, 1) := by decide +kernel
theorem dX5_omits_28 : decode cX5_omits 28 = .ok (.ishl, 1) := by decide +kernel
theorem dX5_omits_29 : decode cX5_omits 29 = .ok (.ior, 1) := by decide +kernel
theorem dX5_omits_30 : decode cX5_omits 30 = .ok (.iastore, 1) := by decide +kernel
theorem dX5_omits_31 : decode cX5_omits 31 = .ok (.aload_n 0, 1) := by decide +kernel
theorem dX5_omits_32 : decode cX5_omits 32 = .ok (.getfield 29, 3) := by decide +kernel
theorem dX5_omits_35 : decode cX5_omits 35 = .ok (.iconst 0, 1) := by decide +kernel
theorem dX5_omits_36 : decode cX5_omits 36 = .ok (.dup2, 1) := by decide +kernel
theorem dX5_omits_37 : decode cX5_omits 37 = .ok (.iaload, 1) := by decide +kernel
theorem dX5_omits_38 : decode cX5_omits 38 = .ok (.iconst 1, 1) := by decide +kernel
theorem dX5_omits_39 : decode cX5_omits 39 = .ok (.iadd, 1) := by decide +kernel
theorem dX5_omits_40 : decode cX5_omits 40 = .ok (.iastore, 1) := by decide +kernel
theorem dX5_omits_41 : decode cX5_omits 41 = .ok (.aload_n 0, 1) := by decide +kernel
theorem dX5_omits_42 : decode cX5_omits 42 = .ok (.getfield 29, 3) := by decide +kernel
theorem dX5_omits_45 : decode cX5_omits 45 = .ok (.iconst 4, 1) := by decide +kernel
theorem dX5_omits_46 : decode cX5_omits 46 = .ok (.iaload, 1) := by decide +kernel
theorem dX5_omits_47 : decode cX5_omits 47 = .ok (.invokestatic 127, 3) := by decide +kernel
theorem dX5_omits_50 : decode cX5_omits 50 = .ok (.ireturn, 1) := by decide +kernel
theorem dX5_smaller_0 : decode cX5_smaller 0 = .ok (.iload_n 1, 1) := by decide +kernel
theorem dX5_smaller_1 : decode cX5_smaller 1 = .ok (.iconst 1, 1) := by decide +kernel
theorem dX5_smaller_2 : decode cX5_smaller 2 = .ok (.iconst 5, 1) := by decide +kernel
theorem dX5_smaller_3 : decode cX5_smaller 3 = .ok (.invokestatic 51, 3) := by decide +kernel
theorem dX5_smaller_6 : decode cX5_smaller 6 = .ok (.ifCond .ne 5, 3) := by decide +kernel
theorem dX5_smaller_9 : decode cX5_smaller 9 = .ok (.iconst (-1), 1) := by decide +kernel
theorem dX5_smaller_10 : decode cX5_smaller 10 = .ok (.ireturn, 1) := by decide +kernel
theorem dX5_smaller_11 : decode cX5_smaller 11 = .ok (.iload_n 1, 1) := by decide +kernel
theorem dX5_smaller_12 : decode cX5_smaller 12 = .ok (.aload_n 0, 1) := by decide +kernel
theorem dX5_smaller_13 : decode cX5_smaller 13 = .ok (.getfield 29, 3) := by decide +kernel
theorem dX5_smaller_16 : decode cX5_smaller 16 = .ok (.iconst 3, 1) := by decide +kernel
theorem dX5_smaller_17 : decode cX5_smaller 17 = .ok (.iaload, 1) := by decide +kernel
theorem dX5_smaller_18 : decode cX5_smaller 18 = .ok (.if_icmp .ge 13, 3) := by decide +kernel
theorem dX5_smaller_21 : decode cX5_smaller 21 = .ok (.iload_n 1, 1) := by decide +kernel
theorem dX5_smaller_22 : decode cX5_smaller 22 = .ok (.aload_n 0, 1) := by decide +kernel
theorem dX5_smaller_23 : decode cX5_smaller 23 = .ok (.getfield 26, 3) := by decide +kernel
theorem dX5_smaller_26 : decode cX5_smaller 26 = .ok (.iconst 0, 1) := by decide +kernel
theorem dX5_smaller_27 : decode cX5_smaller 27 = .ok (.iaload, 1) := by decide +kernel
theorem dX5_smaller_28 : decode cX5_smaller 28 = .ok (.if_icmp .ge 6, 3) := by decide +kernel
theorem dX5_smaller_31 : decode cX5_smaller 31 = .ok (.bipush (-2), 2) := by decide +kernel
theorem dX5_smaller_33 : decode cX5_smaller 33 = .ok (.ireturn, 1) := by decide +kernel
theorem dX5_smaller_34 : decode cX5_smaller 34 = .ok (.aload_n 0, 1) := by decide +kernel
theorem dX5_smaller_35 : decode cX5_smaller 35 = .ok (.invokevirtual 116, 3) := by decide +kernel
theorem dX5_smaller_38 : decode cX5_smaller 38 = .ok (.aload_n 0, 1) := by decide +kernel
theorem dX5_smaller_39 : decode cX5_smaller 39 = .ok (.getfield 29, 3) := by decide +kernel
theorem dX5_smaller_42 : decode cX5_smaller 42 = .ok (.iconst 3, 1) := by decide +kernel
theorem dX5_smaller_43 : decode cX5_smaller 43 = .ok (.iaload, 1) := by decide +kernel
theorem dX5_smaller_44 : decode cX5_smaller 44 = .ok (.istore_n 2, 1) := by decide +kernel
theorem dX5_smaller_45 : decode cX5_smaller 45 = .ok (.aload_n 0, 1) := by decide +kernel
theorem dX5_smaller_46 : decode cX5_smaller 46 = .ok (.getfield 29, 3) := by decide +kernel
theorem dX5_smaller_49 : decode cX5_smaller 49 = .ok (.iconst 3, 1) := by decide +kernel
theorem dX5_smaller_50 : decode cX5_smaller 50 = .ok (.iload_n 1, 1) := by decide +kernel
theorem dX5_smaller_51 : decode cX5_smaller 51 = .ok (.iastore, 1) := by decide +kernel
theorem dX5_smaller_52 : decode cX5_smaller 52 = .ok (.iload_n 2, 1) := by decide +kernel
theorem dX5_smaller_53 : decode cX5_smaller 53 = .ok (.ireturn, 1) := by decide +kernel
theorem dX5_turnsOver_0 : decode cX5_turnsOver 0 = .ok (.aload_n 0, 1) := by decide +kernel
theorem dX5_turnsOver_1 : decode cX5_turnsOver 1 = .ok (.aload_n 0, 1) := by decide +kernel
theorem dX5_turnsOver_2 : decode cX5_turnsOver 2 = .ok (.getfield 29, 3) := by decide +kernel
theorem dX5_turnsOver_5 : decode cX5_turnsOver 5 = .ok (.iconst 1, 1) := by decide +kernel
theorem dX5_turnsOver_6 : decode cX5_turnsOver 6 = .ok (.iaload, 1) := by decide +kernel
theorem dX5_turnsOver_7 : decode cX5_turnsOver 7 = .ok (.iconst 1, 1) := by decide +kernel
theorem dX5_turnsOver_8 : decode cX5_turnsOver 8 = .ok (.iadd, 1) := by decide +kernel
theorem dX5_turnsOver_9 : decode cX5_turnsOver 9 = .ok (.invokevirtual 104, 3) := by decide +kernel
theorem dX5_turnsOver_12 : decode cX5_turnsOver 12 = .ok (.ifCond .ne 6, 3) := by decide +kernel
theorem dX5_turnsOver_15 : decode cX5_turnsOver 15 = .ok (.bipush (-2), 2) := by decide +kernel
theorem dX5_turnsOver_17 : decode cX5_turnsOver 17 = .ok (.ireturn, 1) := by decide +kernel
theorem dX5_turnsOver_18 : decode cX5_turnsOver 18 = .ok (.aload_n 0, 1) := by decide +kernel
theorem dX5_turnsOver_19 : decode cX5_turnsOver 19 = .ok (.invokevirtual 116, 3) := by decide +kernel
theorem dX5_turnsOver_22 : decode cX5_turnsOver 22 = .ok (.aload_n 0, 1) := by decide +kernel
theorem dX5_turnsOver_23 : decode cX5_turnsOver 23 = .ok (.getfield 29, 3) := by decide +kernel
theorem dX5_turnsOver_26 : decode cX5_turnsOver 26 = .ok (.iconst 1, 1) := by decide +kernel
theorem dX5_turnsOver_27 : decode cX5_turnsOver 27 = .ok (.dup2, 1) := by decide +kernel
theorem dX5_turnsOver_28 : decode cX5_turnsOver 28 = .ok (.iaload, 1) := by decide +kernel
theorem dX5_turnsOver_29 : decode cX5_turnsOver 29 = .ok (.iconst 1, 1) := by decide +kernel
theorem dX5_turnsOver_30 : decode cX5_turnsOver 30 = .ok (.iadd, 1) := by decide +kernel
theorem dX5_turnsOver_31 : decode cX5_turnsOver 31 = .ok (.iastore, 1) := by decide +kernel
theorem dX5_turnsOver_32 : decode cX5_turnsOver 32 = .ok (.aload_n 0, 1) := by decide +kernel
theorem dX5_turnsOver_33 : decode cX5_turnsOver 33 = .ok (.getfield 29, 3) := by decide +kernel
theorem dX5_turnsOver_36 : decode cX5_turnsOver 36 = .ok (.iconst 2, 1) := by decide +kernel
theorem dX5_turnsOver_37 : decode cX5_turnsOver 37 = .ok (.aload_n 0, 1) := by decide +kernel
theorem dX5_turnsOver_38 : decode cX5_turnsOver 38 = .ok (.getfield 17, 3) := by decide +kernel
theorem dX5_turnsOver_41 : decode cX5_turnsOver 41 = .ok (.aload_n 0, 1) := by decide +kernel
theorem dX5_turnsOver_42 : decode cX5_turnsOver 42 = .ok (.getfield 29, 3) := by decide +kernel
theorem dX5_turnsOver_45 : decode cX5_turnsOver 45 = .ok (.iconst 1, 1) := by decide +kernel
theorem dX5_turnsOver_46 : decode cX5_turnsOver 46 = .ok (.iaload, 1) := by decide +kernel
theorem dX5_turnsOver_47 : decode cX5_turnsOver 47 = .ok (.iaload, 1) := by decide +kernel
theorem dX5_turnsOver_48 : decode cX5_turnsOver 48 = .ok (.iastore, 1) := by decide +kernel
theorem dX5_turnsOver_49 : decode cX5_turnsOver 49 = .ok (.aload_n 0, 1) := by decide +kernel
theorem dX5_turnsOver_50 : decode cX5_turnsOver 50 = .ok (.getfield 29, 3) := by decide +kernel
theorem dX5_turnsOver_53 : decode cX5_turnsOver 53 = .ok (.iconst 1, 1) := by decide +kernel
theorem dX5_turnsOver_54 : decode cX5_turnsOver 54 = .ok (.iaload, 1) := by decide +kernel
theorem dX5_turnsOver_55 : decode cX5_turnsOver 55 = .ok (.ireturn, 1) := by decide +kernel
theorem dX5_undo_0 : decode cX5_undo 0 = .ok (.aload_n 0, 1) := by decide +kernel
theorem dX5_undo_1 : decode cX5_undo 1 = .ok (.getfield 29, 3) := by decide +kernel
theorem dX5_undo_4 : decode cX5_undo 4 = .ok (.iconst 5, 1) := by decide +kernel
theorem dX5_undo_5 : decode cX5_undo 5 = .ok (.iaload, 1) := by decide +kernel
theorem dX5_undo_6 : decode cX5_undo 6 = .ok (.ifCond .ne 6, 3) := by decide +kernel
theorem dX5_undo_9 : decode cX5_undo 9 = .ok (.bipush (-2), 2) := by decide +kernel
theorem dX5_undo_11 : decode cX5_undo 11 = .ok (.ireturn, 1) := by decide +kernel
theorem dX5_undo_12 : decode cX5_undo 12 = .ok (.aload_n 0, 1) := by decide +kernel
theorem dX5_undo_13 : decode cX5_undo 13 = .ok (.getfield 29, 3) := by decide +kernel
theorem dX5_undo_16 : decode cX5_undo 16 = .ok (.iconst 5, 1) := by decide +kernel
theorem dX5_undo_17 : decode cX5_undo 17 = .ok (.dup2, 1) := by decide +kernel
theorem dX5_undo_18 : decode cX5_undo 18 = .ok (.iaload, 1) := by decide +kernel
theorem dX5_undo_19 : decode cX5_undo 19 = .ok (.iconst 1, 1) := by decide +kernel
theorem dX5_undo_20 : decode cX5_undo 20 = .ok (.isub, 1) := by decide +kernel
theorem dX5_undo_21 : decode cX5_undo 21 = .ok (.iastore, 1) := by decide +kernel
theorem dX5_undo_22 : decode cX5_undo 22 = .ok (.iconst 0, 1) := by decide +kernel
theorem dX5_undo_23 : decode cX5_undo 23 = .ok (.istore_n 1, 1) := by decide +kernel
theorem dX5_undo_24 : decode cX5_undo 24 = .ok (.iload_n 1, 1) := by decide +kernel
theorem dX5_undo_25 : decode cX5_undo 25 = .ok (.iconst 5, 1) := by decide +kernel
theorem dX5_undo_26 : decode cX5_undo 26 = .ok (.if_icmp .ge 33, 3) := by decide +kernel
theorem dX5_undo_29 : decode cX5_undo 29 = .ok (.aload_n 0, 1) := by decide +kernel
theorem dX5_undo_30 : decode cX5_undo 30 = .ok (.getfield 29, 3) := by decide +kernel
theorem dX5_undo_33 : decode cX5_undo 33 = .ok (.iload_n 1, 1) := by decide +kernel
theorem dX5_undo_34 : decode cX5_undo 34 = .ok (.aload_n 0, 1) := by decide +kernel
theorem dX5_undo_35 : decode cX5_undo 35 = .ok (.getfield 29, 3) := by decide +kernel
theorem dX5_undo_38 : decode cX5_undo 38 = .ok (.bipush 6, 2) := by decide +kernel
theorem dX5_undo_40 : decode cX5_undo 40 = .ok (.iconst 5, 1) := by decide +kernel
theorem dX5_undo_41 : decode cX5_undo 41 = .ok (.aload_n 0, 1) := by decide +kernel
theorem dX5_undo_42 : decode cX5_undo 42 = .ok (.getfield 29, 3) := by decide +kernel
theorem dX5_undo_45 : decode cX5_undo 45 = .ok (.iconst 5, 1) := by decide +kernel
theorem dX5_undo_46 : decode cX5_undo 46 = .ok (.iaload, 1) := by decide +kernel
theorem dX5_undo_47 : decode cX5_undo 47 = .ok (.imul, 1) := by decide +kernel
theorem dX5_undo_48 : decode cX5_undo 48 = .ok (.iadd, 1) := by decide +kernel
theorem dX5_undo_49 : decode cX5_undo 49 = .ok (.iload_n 1, 1) := by decide +kernel
theorem dX5_undo_50 : decode cX5_undo 50 = .ok (.iadd, 1) := by decide +kernel
theorem dX5_undo_51 : decode cX5_undo 51 = .ok (.iaload, 1) := by decide +kernel
theorem dX5_undo_52 : decode cX5_undo 52 = .ok (.iastore, 1) := by decide +kernel
theorem dX5_undo_53 : decode cX5_undo 53 = .ok (.iinc 1 1, 3) := by decide +kernel
theorem dX5_undo_56 : decode cX5_undo 56 = .ok (.goto (-32), 3) := by decide +kernel
theorem dX5_undo_59 : decode cX5_undo 59 = .ok (.aload_n 0, 1) := by decide +kernel
theorem dX5_undo_60 : decode cX5_undo 60 = .ok (.getfield 29, 3) := by decide +kernel
theorem dX5_undo_63 : decode cX5_undo 63 = .ok (.iconst 5, 1) := by decide +kernel
theorem dX5_undo_64 : decode cX5_undo 64 = .ok (.iaload, 1) := by decide +kernel
theorem dX5_undo_65 : decode cX5_undo 65 = .ok (.ireturn, 1) := by decide +kernel
theorem dX5_isClear_0 : decode cX5_isClear 0 = .ok (.iload_n 2, 1) := by decide +kernel
theorem dX5_isClear_1 : decode cX5_isClear 1 = .ok (.iload_n 1, 1) := by decide +kernel
theorem dX5_isClear_2 : decode cX5_isClear 2 = .ok (.ishr, 1) := by decide +kernel
theorem dX5_isClear_3 : decode cX5_isClear 3 = .ok (.iconst 1, 1) := by decide +kernel
theorem dX5_isClear_4 : decode cX5_isClear 4 = .ok (.iand, 1) := by decide +kernel
theorem dX5_isClear_5 : decode cX5_isClear 5 = .ok (.ifCond .ne 7, 3) := by decide +kernel
theorem dX5_isClear_8 : decode cX5_isClear 8 = .ok (.iconst 1, 1) := by decide +kernel
theorem dX5_isClear_9 : decode cX5_isClear 9 = .ok (.goto 4, 3) := by decide +kernel
theorem dX5_isClear_12 : decode cX5_isClear 12 = .ok (.iconst 0, 1) := by decide +kernel
theorem dX5_isClear_13 : decode cX5_isClear 13 = .ok (.istore_n 3, 1) := by decide +kernel
theorem dX5_isClear_14 : decode cX5_isClear 14 = .ok (.aload_n 0, 1) := by decide +kernel
theorem dX5_isClear_15 : decode cX5_isClear 15 = .ok (.iload_n 1, 1) := by decide +kernel
theorem dX5_isClear_16 : decode cX5_isClear 16 = .ok (.iconst 2, 1) := by decide +kernel
theorem dX5_isClear_17 : decode cX5_isClear 17 = .ok (.invokevirtual 110, 3) := by decide +kernel
theorem dX5_isClear_20 : decode cX5_isClear 20 = .ok (.istore 4, 2) := by decide +kernel
theorem dX5_isClear_22 : decode cX5_isClear 22 = .ok (.iload 4, 2) := by decide +kernel
theorem dX5_isClear_24 : decode cX5_isClear 24 = .ok (.bipush 99, 2) := by decide +kernel
theorem dX5_isClear_26 : decode cX5_isClear 26 = .ok (.if_icmp .eq 34, 3) := by decide +kernel
theorem dX5_isClear_29 : decode cX5_isClear 29 = .ok (.iload_n 3, 1) := by decide +kernel
theorem dX5_isClear_30 : decode cX5_isClear 30 = .ok (.ifCond .eq 16, 3) := by decide +kernel
theorem dX5_isClear_33 : decode cX5_isClear 33 = .ok (.iload_n 2, 1) := by decide +kernel
theorem dX5_isClear_34 : decode cX5_isClear 34 = .ok (.iload 4, 2) := by decide +kernel
theorem dX5_isClear_36 : decode cX5_isClear 36 = .ok (.ishr, 1) := by decide +kernel
theorem dX5_isClear_37 : decode cX5_isClear 37 = .ok (.iconst 1, 1) := by decide +kernel
theorem dX5_isClear_38 : decode cX5_isClear 38 = .ok (.iand, 1) := by decide +kernel
theorem dX5_isClear_39 : decode cX5_isClear 39 = .ok (.ifCond .ne 7, 3) := by decide +kernel
theorem dX5_isClear_42 : decode cX5_isClear 42 = .ok (.iconst 1, 1) := by decide +kernel
theorem dX5_isClear_43 : decode cX5_isClear 43 = .ok (.goto 4, 3) := by decide +kernel
theorem dX5_isClear_46 : decode cX5_isClear 46 = .ok (.iconst 0, 1) := by decide +kernel
theorem dX5_isClear_47 : decode cX5_isClear 47 = .ok (.istore_n 3, 1) := by decide +kernel
theorem dX5_isClear_48 : decode cX5_isClear 48 = .ok (.aload_n 0, 1) := by decide +kernel
theorem dX5_isClear_49 : decode cX5_isClear 49 = .ok (.iload 4, 2) := by decide +kernel
theorem dX5_isClear_51 : decode cX5_isClear 51 = .ok (.iconst 2, 1) := by decide +kernel
theorem dX5_isClear_52 : decode cX5_isClear 52 = .ok (.invokevirtual 110, 3) := by decide +kernel
theorem dX5_isClear_55 : decode cX5_isClear 55 = .ok (.istore 4, 2) := by decide +kernel
theorem dX5_isClear_57 : decode cX5_isClear 57 = .ok (.goto (-35), 3) := by decide +kernel
theorem dX5_isClear_60 : decode cX5_isClear 60 = .ok (.iload_n 3, 1) := by decide +kernel
theorem dX5_isClear_61 : decode cX5_isClear 61 = .ok (.ireturn, 1) := by decide +kernel
theorem dX5_sense_0 : decode cX5_sense 0 = .ok (.iconst 0, 1) := by decide +kernel
theorem dX5_sense_1 : decode cX5_sense 1 = .ok (.istore_n 1, 1) := by decide +kernel
theorem dX5_sense_2 : decode cX5_sense 2 = .ok (.iconst 0, 1) := by decide +kernel
theorem dX5_sense_3 : decode cX5_sense 3 = .ok (.istore_n 2, 1) := by decide +kernel
theorem dX5_sense_4 : decode cX5_sense 4 = .ok (.iload_n 2, 1) := by decide +kernel
theorem dX5_sense_5 : decode cX5_sense 5 = .ok (.aload_n 0, 1) := by decide +kernel
theorem dX5_sense_6 : decode cX5_sense 6 = .ok (.getfield 29, 3) := by decide +kernel
theorem dX5_sense_9 : decode cX5_sense 9 = .ok (.iconst 0, 1) := by decide +kernel
theorem dX5_sense_10 : decode cX5_sense 10 = .ok (.iaload, 1) := by decide +kernel
theorem dX5_sense_11 : decode cX5_sense 11 = .ok (.if_icmp .ge 33, 3) := by decide +kernel
theorem dX5_sense_14 : decode cX5_sense 14 = .ok (.iload_n 1, 1) := by decide +kernel
theorem dX5_sense_15 : decode cX5_sense 15 = .ok (.aload_n 0, 1) := by decide +kernel
theorem dX5_sense_16 : decode cX5_sense 16 = .ok (.iload_n 2, 1) := by decide +kernel
theorem dX5_sense_17 : decode cX5_sense 17 = .ok (.aload_n 0, 1) := by decide +kernel
theorem dX5_sense_18 : decode cX5_sense 18 = .ok (.getfield 29, 3) := by decide +kernel
theorem dX5_sense_21 : decode cX5_sense 21 = .ok (.iconst 4, 1) := by decide +kernel
theorem dX5_sense_22 : decode cX5_sense 22 = .ok (.iaload, 1) := by decide +kernel
theorem dX5_sense_23 : decode cX5_sense 23 = .ok (.invokevirtual 130, 3) := by decide +kernel
theorem dX5_sense_26 : decode cX5_sense 26 = .ok (.ifCond .eq 9, 3) := by decide +kernel
theorem dX5_sense_29 : decode cX5_sense 29 = .ok (.iconst 1, 1) := by decide +kernel
theorem dX5_sense_30 : decode cX5_sense 30 = .ok (.iload_n 2, 1) := by decide +kernel
theorem dX5_sense_31 : decode cX5_sense 31 = .ok (.ishl, 1) := by decide +kernel
theorem dX5_sense_32 : decode cX5_sense 32 = .ok (.goto 4, 3) := by decide +kernel
theorem dX5_sense_35 : decode cX5_sense 35 = .ok (.iconst 0, 1) := by decide +kernel
theorem dX5_sense_36 : decode cX5_sense 36 = .ok (.ior, 1) := by decide +kernel
theorem dX5_sense_37 : decode cX5_sense 37 = .ok (.istore_n 1, 1) := by decide +kernel
theorem dX5_sense_38 : decode cX5_sense 38 = .ok (.iinc 2 1, 3) := by decide +kernel
theorem dX5_sense_41 : decode cX5_sense 41 = .ok (.goto (-37), 3) := by decide +kernel
theorem dX5_sense_44 : decode cX5_sense 44 = .ok (.iload_n 1, 1) := by decide +kernel
theorem dX5_sense_45 : decode cX5_sense 45 = .ok (.ireturn, 1) := by decide +kernel
theorem dX5_sumOf_0 : decode cX5_sumOf 0 = .ok (.iconst 0, 1) := by decide +kernel
theorem dX5_sumOf_1 : decode cX5_sumOf 1 = .ok (.istore_n 3, 1) := by decide +kernel
theorem dX5_sumOf_2 : decode cX5_sumOf 2 = .ok (.iconst 0, 1) := by decide +kernel
theorem dX5_sumOf_3 : decode cX5_sumOf 3 = .ok (.istore 4, 2) := by decide +kernel
theorem dX5_sumOf_5 : decode cX5_sumOf 5 = .ok (.iload 4, 2) := by decide +kernel
theorem dX5_sumOf_7 : decode cX5_sumOf 7 = .ok (.aload_n 0, 1) := by decide +kernel
theorem dX5_sumOf_8 : decode cX5_sumOf 8 = .ok (.getfield 20, 3) := by decide +kernel
theorem dX5_sumOf_11 : decode cX5_sumOf 11 = .ok (.iconst 0, 1) := by decide +kernel
theorem dX5_sumOf_12 : decode cX5_sumOf 12 = .ok (.iaload, 1) := by decide +kernel
theorem dX5_sumOf_13 : decode cX5_sumOf 13 = .ok (.if_icmp .ge 26, 3) := by decide +kernel
theorem dX5_sumOf_16 : decode cX5_sumOf 16 = .ok (.iload_n 3, 1) := by decide +kernel
theorem dX5_sumOf_17 : decode cX5_sumOf 17 = .ok (.iload_n 1, 1) := by decide +kernel
theorem dX5_sumOf_18 : decode cX5_sumOf 18 = .ok (.iload 4, 2) := by decide +kernel
theorem dX5_sumOf_20 : decode cX5_sumOf 20 = .ok (.ishr, 1) := by decide +kernel
theorem dX5_sumOf_21 : decode cX5_sumOf 21 = .ok (.iconst 1, 1) := by decide +kernel
theorem dX5_sumOf_22 : decode cX5_sumOf 22 = .ok (.iand, 1) := by decide +kernel
theorem dX5_sumOf_23 : decode cX5_sumOf 23 = .ok (.aload_n 0, 1) := by decide +kernel
theorem dX5_sumOf_24 : decode cX5_sumOf 24 = .ok (.iload 4, 2) := by decide +kernel
theorem dX5_sumOf_26 : decode cX5_sumOf 26 = .ok (.iload_n 2, 1) := by decide +kernel
theorem dX5_sumOf_27 : decode cX5_sumOf 27 = .ok (.invokevirtual 110, 3) := by decide +kernel
theorem dX5_sumOf_30 : decode cX5_sumOf 30 = .ok (.imul, 1) := by decide +kernel
theorem dX5_sumOf_31 : decode cX5_sumOf 31 = .ok (.iadd, 1) := by decide +kernel
theorem dX5_sumOf_32 : decode cX5_sumOf 32 = .ok (.istore_n 3, 1) := by decide +kernel
theorem dX5_sumOf_33 : decode cX5_sumOf 33 = .ok (.iinc 4 1, 3) := by decide +kernel
theorem dX5_sumOf_36 : decode cX5_sumOf 36 = .ok (.goto (-31), 3) := by decide +kernel
theorem dX5_sumOf_39 : decode cX5_sumOf 39 = .ok (.iload_n 3, 1) := by decide +kernel
theorem dX5_sumOf_40 : decode cX5_sumOf 40 = .ok (.ireturn, 1) := by decide +kernel
theorem dX5_now_0 : decode cX5_now 0 = .ok (.iload_n 1, 1) := by decide +kernel
theorem dX5_now_1 : decode cX5_now 1 = .ok (.tableswitch 65 0 6 #[43, 43, 43, 43, 43, 50, 55], 43) := by decide +kernel
theorem dX5_now_44 : decode cX5_now 44 = .ok (.aload_n 0, 1) := by decide +kernel
theorem dX5_now_45 : decode cX5_now 45 = .ok (.getfield 29, 3) := by decide +kernel
theorem dX5_now_48 : decode cX5_now 48 = .ok (.iload_n 1, 1) := by decide +kernel
theorem dX5_now_49 : decode cX5_now 49 = .ok (.iaload, 1) := by decide +kernel
theorem dX5_now_50 : decode cX5_now 50 = .ok (.ireturn, 1) := by decide +kernel
theorem dX5_now_51 : decode cX5_now 51 = .ok (.aload_n 0, 1) := by decide +kernel
theorem dX5_now_52 : decode cX5_now 52 = .ok (.invokevirtual 134, 3) := by decide +kernel
theorem dX5_now_55 : decode cX5_now 55 = .ok (.ireturn, 1) := by decide +kernel
theorem dX5_now_56 : decode cX5_now 56 = .ok (.aload_n 0, 1) := by decide +kernel
theorem dX5_now_57 : decode cX5_now 57 = .ok (.aload_n 0, 1) := by decide +kernel
theorem dX5_now_58 : decode cX5_now 58 = .ok (.invokevirtual 134, 3) := by decide +kernel
theorem dX5_now_61 : decode cX5_now 61 = .ok (.iconst 1, 1) := by decide +kernel
theorem dX5_now_62 : decode cX5_now 62 = .ok (.invokevirtual 137, 3) := by decide +kernel
theorem dX5_now_65 : decode cX5_now 65 = .ok (.ireturn, 1) := by decide +kernel
theorem dX5_now_66 : decode cX5_now 66 = .ok (.iconst (-1), 1) := by decide +kernel
theorem dX5_now_67 : decode cX5_now 67 = .ok (.ireturn, 1) := by decide +kernel
theorem dX5_allSizes_0 : decode cX5_allSizes 0 = .ok (.iconst 0, 1) := by decide +kernel
theorem dX5_allSizes_1 : decode cX5_allSizes 1 = .ok (.istore_n 2, 1) := by decide +kernel
theorem dX5_allSizes_2 : decode cX5_allSizes 2 = .ok (.iload_n 2, 1) := by decide +kernel
theorem dX5_allSizes_3 : decode cX5_allSizes 3 = .ok (.bipush 6, 2) := by decide +kernel
theorem dX5_allSizes_5 : decode cX5_allSizes 5 = .ok (.if_icmp .ge 16, 3) := by decide +kernel
theorem dX5_allSizes_8 : decode cX5_allSizes 8 = .ok (.aload_n 0, 1) := by decide +kernel
theorem dX5_allSizes_9 : decode cX5_allSizes 9 = .ok (.getfield 36, 3) := by decide +kernel
theorem dX5_allSizes_12 : decode cX5_allSizes 12 = .ok (.iload_n 2, 1) := by decide +kernel
theorem dX5_allSizes_13 : decode cX5_allSizes 13 = .ok (.iload_n 1, 1) := by decide +kernel
theorem dX5_allSizes_14 : decode cX5_allSizes 14 = .ok (.iastore, 1) := by decide +kernel
theorem dX5_allSizes_15 : decode cX5_allSizes 15 = .ok (.iinc 2 1, 3) := by decide +kernel
theorem dX5_allSizes_18 : decode cX5_allSizes 18 = .ok (.goto (-16), 3) := by decide +kernel
theorem dX5_allSizes_21 : decode cX5_allSizes 21 = .ok (.aload_n 0, 1) := by decide +kernel
theorem dX5_allSizes_22 : decode cX5_allSizes 22 = .ok (.iconst 0, 1) := by decide +kernel
theorem dX5_allSizes_23 : decode cX5_allSizes 23 = .ok (.putfield 140, 3) := by decide +kernel
theorem dX5_allSizes_26 : decode cX5_allSizes 26 = .ok (.aload_n 0, 1) := by decide +kernel
theorem dX5_allSizes_27 : decode cX5_allSizes 27 = .ok (.iconst 0, 1) := by decide +kernel
theorem dX5_allSizes_28 : decode cX5_allSizes 28 = .ok (.putfield 143, 3) := by decide +kernel
theorem dX5_allSizes_31 : decode cX5_allSizes 31 = .ok (.return_, 1) := by decide +kernel
theorem dX5_wideOf_0 : decode cX5_wideOf 0 = .ok (.iload_n 1, 1) := by decide +kernel
theorem dX5_wideOf_1 : decode cX5_wideOf 1 = .ok (.ifCond .ne 17, 3) := by decide +kernel
theorem dX5_wideOf_4 : decode cX5_wideOf 4 = .ok (.aload_n 0, 1) := by decide +kernel
theorem dX5_wideOf_5 : decode cX5_wideOf 5 = .ok (.getfield 17, 3) := by decide +kernel
theorem dX5_wideOf_8 : decode cX5_wideOf 8 = .ok (.iconst 0, 1) := by decide +kernel
theorem dX5_wideOf_9 : decode cX5_wideOf 9 = .ok (.iaload, 1) := by decide +kernel
theorem dX5_wideOf_10 : decode cX5_wideOf 10 = .ok (.aload_n 0, 1) := by decide +kernel
theorem dX5_wideOf_11 : decode cX5_wideOf 11 = .ok (.getfield 140, 3) := by decide +kernel
theorem dX5_wideOf_14 : decode cX5_wideOf 14 = .ok (.isub, 1) := by decide +kernel
theorem dX5_wideOf_15 : decode cX5_wideOf 15 = .ok (.goto 9, 3) := by decide +kernel
theorem dX5_wideOf_18 : decode cX5_wideOf 18 = .ok (.aload_n 0, 1) := by decide +kernel
theorem dX5_wideOf_19 : decode cX5_wideOf 19 = .ok (.getfield 17, 3) := by decide +kernel
theorem dX5_wideOf_22 : decode cX5_wideOf 22 = .ok (.iload_n 1, 1) := by decide +kernel
theorem dX5_wideOf_23 : decode cX5_wideOf 23 = .ok (.iaload, 1) := by decide +kernel
theorem dX5_wideOf_24 : decode cX5_wideOf 24 = .ok (.istore_n 2, 1) := by decide +kernel
theorem dX5_wideOf_25 : decode cX5_wideOf 25 = .ok (.iload_n 2, 1) := by decide +kernel
theorem dX5_wideOf_26 : decode cX5_wideOf 26 = .ok (.ifCond .ge 7, 3) := by decide +kernel
theorem dX5_wideOf_29 : decode cX5_wideOf 29 = .ok (.iconst 0, 1) := by decide +kernel
theorem dX5_wideOf_30 : decode cX5_wideOf 30 = .ok (.goto 4, 3) := by decide +kernel
theorem dX5_wideOf_33 : decode cX5_wideOf 33 = .ok (.iload_n 2, 1) := by decide +kernel
theorem dX5_wideOf_34 : decode cX5_wideOf 34 = .ok (.ireturn, 1) := by decide +kernel
theorem dX5_fillBy_0 : decode cX5_fillBy 0 = .ok (.aload_n 0, 1) := by decide +kernel
theorem dX5_fillBy_1 : decode cX5_fillBy 1 = .ok (.iconst 0, 1) := by decide +kernel
theorem dX5_fillBy_2 : decode cX5_fillBy 2 = .ok (.putfield 146, 3) := by decide +kernel
theorem dX5_fillBy_5 : decode cX5_fillBy 5 = .ok (.aload_n 0, 1) := by decide +kernel
theorem dX5_fillBy_6 : decode cX5_fillBy 6 = .ok (.bipush (-9), 2) := by decide +kernel
theorem dX5_fillBy_8 : decode cX5_fillBy 8 = .ok (.putfield 149, 3) := by decide +kernel
theorem dX5_fillBy_11 : decode cX5_fillBy 11 = .ok (.aload_n 0, 1) := by decide +kernel
theorem dX5_fillBy_12 : decode cX5_fillBy 12 = .ok (.bipush (-9), 2) := by decide +kernel
theorem dX5_fillBy_14 : decode cX5_fillBy 14 = .ok (.putfield 152, 3) := by decide +kernel
theorem dX5_fillBy_17 : decode cX5_fillBy 17 = .ok (.iconst 0, 1) := by decide +kernel
theorem dX5_fillBy_18 : decode cX5_fillBy 18 = .ok (.istore_n 2, 1) := by decide +kernel
theorem dX5_fillBy_19 : decode cX5_fillBy 19 = .ok (.aload_n 0, 1) := by decide +kernel
theorem dX5_fillBy_20 : decode cX5_fillBy 20 = .ok (.getfield 13, 3) := by decide +kernel
theorem dX5_fillBy_23 : decode cX5_fillBy 23 = .ok (.iconst 0, 1) := by decide +kernel
theorem dX5_fillBy_24 : decode cX5_fillBy 24 = .ok (.iaload, 1) := by decide +kernel
theorem dX5_fillBy_25 : decode cX5_fillBy 25 = .ok (.ifCond .le 11, 3) := by decide +kernel
theorem dX5_fillBy_28 : decode cX5_fillBy 28 = .ok (.aload_n 0, 1) := by decide +kernel
theorem dX5_fillBy_29 : decode cX5_fillBy 29 = .ok (.iconst 0, 1) := by decide +kernel
theorem dX5_fillBy_30 : decode cX5_fillBy 30 = .ok (.invokevirtual 155, 3) := by decide +kernel
theorem dX5_fillBy_33 : decode cX5_fillBy 33 = .ok (.goto 4, 3) := by decide +kernel
theorem dX5_fillBy_36 : decode cX5_fillBy 36 = .ok (.iconst 0, 1) := by decide +kernel
theorem dX5_fillBy_37 : decode cX5_fillBy 37 = .ok (.istore_n 3, 1) := by decide +kernel
theorem dX5_fillBy_38 : decode cX5_fillBy 38 = .ok (.iconst 1, 1) := by decide +kernel
theorem dX5_fillBy_39 : decode cX5_fillBy 39 = .ok (.istore 4, 2) := by decide +kernel
theorem dX5_fillBy_41 : decode cX5_fillBy 41 = .ok (.iconst 0, 1) := by decide +kernel
theorem dX5_fillBy_42 : decode cX5_fillBy 42 = .ok (.istore 5, 2) := by decide +kernel
theorem dX5_fillBy_44 : decode cX5_fillBy 44 = .ok (.iload 5, 2) := by decide +kernel
theorem dX5_fillBy_46 : decode cX5_fillBy 46 = .ok (.aload_n 0, 1) := by decide +kernel
theorem dX5_fillBy_47 : decode cX5_fillBy 47 = .ok (.getfield 20, 3) := by decide +kernel
theorem dX5_fillBy_50 : decode cX5_fillBy 50 = .ok (.iconst 0, 1) := by decide +kernel
theorem dX5_fillBy_51 : decode cX5_fillBy 51 = .ok (.iaload, 1) := by decide +kernel
theorem dX5_fillBy_52 : decode cX5_fillBy 52 = .ok (.if_icmp .ge 192, 3) := by decide +kernel
theorem dX5_fillBy_55 : decode cX5_fillBy 55 = .ok (.iload_n 1, 1) := by decide +kernel
theorem dX5_fillBy_56 : decode cX5_fillBy 56 = .ok (.iload 5, 2) := by decide +kernel
theorem dX5_fillBy_58 : decode cX5_fillBy 58 = .ok (.ishr, 1) := by decide +kernel
theorem dX5_fillBy_59 : decode cX5_fillBy 59 = .ok (.iconst 1, 1) := by decide +kernel
theorem dX5_fillBy_60 : decode cX5_fillBy 60 = .ok (.iand, 1) := by decide +kernel
theorem dX5_fillBy_61 : decode cX5_fillBy 61 = .ok (.iconst 1, 1) := by decide +kernel
theorem dX5_fillBy_62 : decode cX5_fillBy 62 = .ok (.if_icmp .ne 176, 3) := by decide +kernel
theorem dX5_fillBy_65 : decode cX5_fillBy 65 = .ok (.aload_n 0, 1) := by decide +kernel
theorem dX5_fillBy_66 : decode cX5_fillBy 66 = .ok (.iload 5, 2) := by decide +kernel
theorem dX5_fillBy_68 : decode cX5_fillBy 68 = .ok (.iconst 0, 1) := by decide +kernel
theorem dX5_fillBy_69 : decode cX5_fillBy 69 = .ok (.invokevirtual 110, 3) := by decide +kernel
theorem dX5_fillBy_72 : decode cX5_fillBy 72 = .ok (.iconst 2, 1) := by decide +kernel
theorem dX5_fillBy_73 : decode cX5_fillBy 73 = .ok (.aload_n 0, 1) := by decide +kernel
theorem dX5_fillBy_74 : decode cX5_fillBy 74 = .ok (.getfield 143, 3) := by decide +kernel
theorem dX5_fillBy_77 : decode cX5_fillBy 77 = .ok (.iload 5, 2) := by decide +kernel
theorem dX5_fillBy_79 : decode cX5_fillBy 79 = .ok (.ishr, 1) := by decide +kernel
theorem dX5_fillBy_80 : decode cX5_fillBy 80 = .ok (.iconst 1, 1) := by decide +kernel
theorem dX5_fillBy_81 : decode cX5_fillBy 81 = .ok (.iand, 1) := by decide +kernel
theorem dX5_fillBy_82 : decode cX5_fillBy 82 = .ok (.imul, 1) := by decide +kernel
theorem dX5_fillBy_83 : decode cX5_fillBy 83 = .ok (.iadd, 1) := by decide +kernel
theorem dX5_fillBy_84 : decode cX5_fillBy 84 = .ok (.istore 6, 2) := by decide +kernel
theorem dX5_fillBy_86 : decode cX5_fillBy 86 = .ok (.iload_n 2, 1) := by decide +kernel
theorem dX5_fillBy_87 : decode cX5_fillBy 87 = .ok (.aload_n 0, 1) := by decide +kernel
theorem dX5_fillBy_88 : decode cX5_fillBy 88 = .ok (.getfield 13, 3) := by decide +kernel
theorem dX5_fillBy_91 : decode cX5_fillBy 91 = .ok (.iconst 0, 1) := by decide +kernel
theorem dX5_fillBy_92 : decode cX5_fillBy 92 = .ok (.iaload, 1) := by decide +kernel
theorem dX5_fillBy_93 : decode cX5_fillBy 93 = .ok (.if_icmp .ge 40, 3) := by decide +kernel
theorem dX5_fillBy_96 : decode cX5_fillBy 96 = .ok (.iload 4, 2) := by decide +kernel
theorem dX5_fillBy_98 : decode cX5_fillBy 98 = .ok (.ifCond .ne 35, 3) := by decide +kernel
theorem dX5_fillBy_101 : decode cX5_fillBy 101 = .ok (.iload 6, 2) := by decide +kernel
theorem dX5_fillBy_103 : decode cX5_fillBy 103 = .ok (.iconst 1, 1) := by decide +kernel
theorem dX5_fillBy_104 : decode cX5_fillBy 104 = .ok (.iadd, 1) := by decide +kernel
theorem dX5_fillBy_105 : decode cX5_fillBy 105 = .ok (.aload_n 0, 1) := by decide +kernel
theorem dX5_fillBy_106 : decode cX5_fillBy 106 = .ok (.getfield 36, 3) := by decide +kernel
theorem dX5_fillBy_109 : decode cX5_fillBy 109 = .ok (.iload_n 2, 1) := by decide +kernel
theorem dX5_fillBy_110 : decode cX5_fillBy 110 = .ok (.iaload, 1) := by decide +kernel
theorem dX5_fillBy_111 : decode cX5_fillBy 111 = .ok (.imul, 1) := by decide +kernel
theorem dX5_fillBy_112 : decode cX5_fillBy 112 = .ok (.iload_n 3, 1) := by decide +kernel
theorem dX5_fillBy_113 : decode cX5_fillBy 113 = .ok (.if_icmp .gt 20, 3) := by decide +kernel
theorem dX5_fillBy_116 : decode cX5_fillBy 116 = .ok (.iload_n 3, 1) := by decide +kernel
theorem dX5_fillBy_117 : decode cX5_fillBy 117 = .ok (.iload 6, 2) := by decide +kernel
theorem dX5_fillBy_119 : decode cX5_fillBy 119 = .ok (.iconst 1, 1) := by decide +kernel
theorem dX5_fillBy_120 : decode cX5_fillBy 120 = .ok (.iadd, 1) := by decide +kernel
theorem dX5_fillBy_121 : decode cX5_fillBy 121 = .ok (.aload_n 0, 1) := by decide +kernel
theorem dX5_fillBy_122 : decode cX5_fillBy 122 = .ok (.getfield 36, 3) := by decide +kernel
theorem dX5_fillBy_125 : decode cX5_fillBy 125 = .ok (.iload_n 2, 1) := by decide +kernel
theorem dX5_fillBy_126 : decode cX5_fillBy 126 = .ok (.iaload, 1) := by decide +kernel
theorem dX5_fillBy_127 : decode cX5_fillBy 127 = .ok (.imul, 1) := by decide +kernel
theorem dX5_fillBy_128 : decode cX5_fillBy 128 = .ok (.isub, 1) := by decide +kernel
theorem dX5_fillBy_129 : decode cX5_fillBy 129 = .ok (.istore_n 3, 1) := by decide +kernel
theorem dX5_fillBy_130 : decode cX5_fillBy 130 = .ok (.goto 80, 3) := by decide +kernel
theorem dX5_fillBy_133 : decode cX5_fillBy 133 = .ok (.iload 4, 2) := by decide +kernel
theorem dX5_fillBy_135 : decode cX5_fillBy 135 = .ok (.ifCond .eq 7, 3) := by decide +kernel
theorem dX5_fillBy_138 : decode cX5_fillBy 138 = .ok (.iload_n 2, 1) := by decide +kernel
theorem dX5_fillBy_139 : decode cX5_fillBy 139 = .ok (.goto 6, 3) := by decide +kernel
theorem dX5_fillBy_142 : decode cX5_fillBy 142 = .ok (.iload_n 2, 1) := by decide +kernel
theorem dX5_fillBy_143 : decode cX5_fillBy 143 = .ok (.iconst 1, 1) := by decide +kernel
theorem dX5_fillBy_144 : decode cX5_fillBy 144 = .ok (.iadd, 1) := by decide +kernel
theorem dX5_fillBy_145 : decode cX5_fillBy 145 = .ok (.istore_n 2, 1) := by decide +kernel
theorem dX5_fillBy_146 : decode cX5_fillBy 146 = .ok (.iload_n 2, 1) := by decide +kernel
theorem dX5_fillBy_147 : decode cX5_fillBy 147 = .ok (.aload_n 0, 1) := by decide +kernel
theorem dX5_fillBy_148 : decode cX5_fillBy 148 = .ok (.getfield 13, 3) := by decide +kernel
theorem dX5_fillBy_151 : decode cX5_fillBy 151 = .ok (.iconst 0, 1) := by decide +kernel
theorem dX5_fillBy_152 : decode cX5_fillBy 152 = .ok (.iaload, 1) := by decide +kernel
theorem dX5_fillBy_153 : decode cX5_fillBy 153 = .ok (.if_icmp .ge 26, 3) := by decide +kernel
theorem dX5_fillBy_156 : decode cX5_fillBy 156 = .ok (.iload 6, 2) := by decide +kernel
theorem dX5_fillBy_158 : decode cX5_fillBy 158 = .ok (.aload_n 0, 1) := by decide +kernel
theorem dX5_fillBy_159 : decode cX5_fillBy 159 = .ok (.getfield 36, 3) := by decide +kernel
theorem dX5_fillBy_162 : decode cX5_fillBy 162 = .ok (.iload_n 2, 1) := by decide +kernel
theorem dX5_fillBy_163 : decode cX5_fillBy 163 = .ok (.iaload, 1) := by decide +kernel
theorem dX5_fillBy_164 : decode cX5_fillBy 164 = .ok (.imul, 1) := by decide +kernel
theorem dX5_fillBy_165 : decode cX5_fillBy 165 = .ok (.aload_n 0, 1) := by decide +kernel
theorem dX5_fillBy_166 : decode cX5_fillBy 166 = .ok (.iload_n 2, 1) := by decide +kernel
theorem dX5_fillBy_167 : decode cX5_fillBy 167 = .ok (.invokevirtual 155, 3) := by decide +kernel
theorem dX5_fillBy_170 : decode cX5_fillBy 170 = .ok (.if_icmp .le 9, 3) := by decide +kernel
theorem dX5_fillBy_173 : decode cX5_fillBy 173 = .ok (.iinc 2 1, 3) := by decide +kernel
theorem dX5_fillBy_176 : decode cX5_fillBy 176 = .ok (.goto (-30), 3) := by decide +kernel
theorem dX5_fillBy_179 : decode cX5_fillBy 179 = .ok (.iload_n 2, 1) := by decide +kernel
theorem dX5_fillBy_180 : decode cX5_fillBy 180 = .ok (.aload_n 0, 1) := by decide +kernel
theorem dX5_fillBy_181 : decode cX5_fillBy 181 = .ok (.getfield 13, 3) := by decide +kernel
theorem dX5_fillBy_184 : decode cX5_fillBy 184 = .ok (.iconst 0, 1) := by decide +kernel
theorem dX5_fillBy_185 : decode cX5_fillBy 185 = .ok (.iaload, 1) := by decide +kernel
theorem dX5_fillBy_186 : decode cX5_fillBy 186 = .ok (.if_icmp .lt 5, 3) := by decide +kernel
theorem dX5_fillBy_189 : decode cX5_fillBy 189 = .ok (.iconst 0, 1) := by decide +kernel
theorem dX5_fillBy_190 : decode cX5_fillBy 190 = .ok (.ireturn, 1) := by decide +kernel
theorem dX5_fillBy_191 : decode cX5_fillBy 191 = .ok (.aload_n 0, 1) := by decide +kernel
theorem dX5_fillBy_192 : decode cX5_fillBy 192 = .ok (.iload_n 2, 1) := by decide +kernel
theorem dX5_fillBy_193 : decode cX5_fillBy 193 = .ok (.invokevirtual 155, 3) := by decide +kernel
theorem dX5_fillBy_196 : decode cX5_fillBy 196 = .ok (.iload 6, 2) := by decide +kernel
theorem dX5_fillBy_198 : decode cX5_fillBy 198 = .ok (.aload_n 0, 1) := by decide +kernel
theorem dX5_fillBy_199 : decode cX5_fillBy 199 = .ok (.getfield 36, 3) := by decide +kernel
theorem dX5_fillBy_202 : decode cX5_fillBy 202 = .ok (.iload_n 2, 1) := by decide +kernel
theorem dX5_fillBy_203 : decode cX5_fillBy 203 = .ok (.iaload, 1) := by decide +kernel
theorem dX5_fillBy_204 : decode cX5_fillBy 204 = .ok (.imul, 1) := by decide +kernel
theorem dX5_fillBy_205 : decode cX5_fillBy 205 = .ok (.isub, 1) := by decide +kernel
theorem dX5_fillBy_206 : decode cX5_fillBy 206 = .ok (.istore_n 3, 1) := by decide +kernel
theorem dX5_fillBy_207 : decode cX5_fillBy 207 = .ok (.iconst 0, 1) := by decide +kernel
theorem dX5_fillBy_208 : decode cX5_fillBy 208 = .ok (.istore 4, 2) := by decide +kernel
theorem dX5_fillBy_210 : decode cX5_fillBy 210 = .ok (.aload_n 0, 1) := by decide +kernel
theorem dX5_fillBy_211 : decode cX5_fillBy 211 = .ok (.getfield 39, 3) := by decide +kernel
theorem dX5_fillBy_214 : decode cX5_fillBy 214 = .ok (.iload 5, 2) := by decide +kernel
theorem dX5_fillBy_216 : decode cX5_fillBy 216 = .ok (.iload_n 2, 1) := by decide +kernel
theorem dX5_fillBy_217 : decode cX5_fillBy 217 = .ok (.iastore, 1) := by decide +kernel
theorem dX5_fillBy_218 : decode cX5_fillBy 218 = .ok (.aload_n 0, 1) := by decide +kernel
theorem dX5_fillBy_219 : decode cX5_fillBy 219 = .ok (.dup, 1) := by decide +kernel
theorem dX5_fillBy_220 : decode cX5_fillBy 220 = .ok (.getfield 146, 3) := by decide +kernel
theorem dX5_fillBy_223 : decode cX5_fillBy 223 = .ok (.iconst 1, 1) := by decide +kernel
theorem dX5_fillBy_224 : decode cX5_fillBy 224 = .ok (.iadd, 1) := by decide +kernel
theorem dX5_fillBy_225 : decode cX5_fillBy 225 = .ok (.putfield 146, 3) := by decide +kernel
theorem dX5_fillBy_228 : decode cX5_fillBy 228 = .ok (.aload_n 0, 1) := by decide +kernel
theorem dX5_fillBy_229 : decode cX5_fillBy 229 = .ok (.iload_n 2, 1) := by decide +kernel
theorem dX5_fillBy_230 : decode cX5_fillBy 230 = .ok (.putfield 149, 3) := by decide +kernel
theorem dX5_fillBy_233 : decode cX5_fillBy 233 = .ok (.aload_n 0, 1) := by decide +kernel
theorem dX5_fillBy_234 : decode cX5_fillBy 234 = .ok (.iload_n 3, 1) := by decide +kernel
theorem dX5_fillBy_235 : decode cX5_fillBy 235 = .ok (.putfield 152, 3) := by decide +kernel
theorem dX5_fillBy_238 : decode cX5_fillBy 238 = .ok (.iinc 5 1, 3) := by decide +kernel
theorem dX5_fillBy_241 : decode cX5_fillBy 241 = .ok (.goto (-197), 3) := by decide +kernel
theorem dX5_fillBy_244 : decode cX5_fillBy 244 = .ok (.iconst 1, 1) := by decide +kernel
theorem dX5_fillBy_245 : decode cX5_fillBy 245 = .ok (.ireturn, 1) := by decide +kernel
theorem dX5_all_0 : decode cX5_all 0 = .ok (.iconst 1, 1) := by decide +kernel
theorem dX5_all_1 : decode cX5_all 1 = .ok (.aload_n 0, 1) := by decide +kernel
theorem dX5_all_2 : decode cX5_all 2 = .ok (.getfield 20, 3) := by decide +kernel
theorem dX5_all_5 : decode cX5_all 5 = .ok (.iconst 0, 1) := by decide +kernel
theorem dX5_all_6 : decode cX5_all 6 = .ok (.iaload, 1) := by decide +kernel
theorem dX5_all_7 : decode cX5_all 7 = .ok (.ishl, 1) := by decide +kernel
theorem dX5_all_8 : decode cX5_all 8 = .ok (.iconst 1, 1) := by decide +kernel
theorem dX5_all_9 : decode cX5_all 9 = .ok (.isub, 1) := by decide +kernel
theorem dX5_all_10 : decode cX5_all 10 = .ok (.ireturn, 1) := by decide +kernel
theorem dX5_fill_0 : decode cX5_fill 0 = .ok (.aload_n 0, 1) := by decide +kernel
theorem dX5_fill_1 : decode cX5_fill 1 = .ok (.iload_n 1, 1) := by decide +kernel
theorem dX5_fill_2 : decode cX5_fill 2 = .ok (.invokevirtual 158, 3) := by decide +kernel
theorem dX5_fill_5 : decode cX5_fill 5 = .ok (.ifCond .eq 24, 3) := by decide +kernel
theorem dX5_fill_8 : decode cX5_fill 8 = .ok (.iload_n 2, 1) := by decide +kernel
theorem dX5_fill_9 : decode cX5_fill 9 = .ok (.iconst 0, 1) := by decide +kernel
theorem dX5_fill_10 : decode cX5_fill 10 = .ok (.aload_n 0, 1) := by decide +kernel
theorem dX5_fill_11 : decode cX5_fill 11 = .ok (.invokevirtual 161, 3) := by decide +kernel
theorem dX5_fill_14 : decode cX5_fill 14 = .ok (.invokestatic 51, 3) := by decide +kernel
theorem dX5_fill_17 : decode cX5_fill 17 = .ok (.ifCond .eq 12, 3) := by decide +kernel
theorem dX5_fill_20 : decode cX5_fill 20 = .ok (.iload_n 3, 1) := by decide +kernel
theorem dX5_fill_21 : decode cX5_fill 21 = .ok (.iconst 0, 1) := by decide +kernel
theorem dX5_fill_22 : decode cX5_fill 22 = .ok (.iconst 1, 1) := by decide +kernel
theorem dX5_fill_23 : decode cX5_fill 23 = .ok (.invokestatic 51, 3) := by decide +kernel
theorem dX5_fill_26 : decode cX5_fill 26 = .ok (.ifCond .ne 5, 3) := by decide +kernel
theorem dX5_fill_29 : decode cX5_fill 29 = .ok (.iconst (-1), 1) := by decide +kernel
theorem dX5_fill_30 : decode cX5_fill 30 = .ok (.ireturn, 1) := by decide +kernel
theorem dX5_fill_31 : decode cX5_fill 31 = .ok (.aload_n 0, 1) := by decide +kernel
theorem dX5_fill_32 : decode cX5_fill 32 = .ok (.iload_n 1, 1) := by decide +kernel
theorem dX5_fill_33 : decode cX5_fill 33 = .ok (.invokevirtual 164, 3) := by decide +kernel
theorem dX5_fill_36 : decode cX5_fill 36 = .ok (.aload_n 0, 1) := by decide +kernel
theorem dX5_fill_37 : decode cX5_fill 37 = .ok (.iload_n 2, 1) := by decide +kernel
theorem dX5_fill_38 : decode cX5_fill 38 = .ok (.invokevirtual 167, 3) := by decide +kernel
theorem dX5_fill_41 : decode cX5_fill 41 = .ok (.ifCond .ne 6, 3) := by decide +kernel
theorem dX5_fill_44 : decode cX5_fill 44 = .ok (.bipush (-9), 2) := by decide +kernel
theorem dX5_fill_46 : decode cX5_fill 46 = .ok (.ireturn, 1) := by decide +kernel
theorem dX5_fill_47 : decode cX5_fill 47 = .ok (.iload_n 3, 1) := by decide +kernel
theorem dX5_fill_48 : decode cX5_fill 48 = .ok (.ifCond .ne 10, 3) := by decide +kernel
theorem dX5_fill_51 : decode cX5_fill 51 = .ok (.aload_n 0, 1) := by decide +kernel
theorem dX5_fill_52 : decode cX5_fill 52 = .ok (.getfield 149, 3) := by decide +kernel
theorem dX5_fill_55 : decode cX5_fill 55 = .ok (.goto 7, 3) := by decide +kernel
theorem dX5_fill_58 : decode cX5_fill 58 = .ok (.aload_n 0, 1) := by decide +kernel
theorem dX5_fill_59 : decode cX5_fill 59 = .ok (.getfield 152, 3) := by decide +kernel
theorem dX5_fill_62 : decode cX5_fill 62 = .ok (.ireturn, 1) := by decide +kernel
theorem dX5_goesOn_0 : decode cX5_goesOn 0 = .ok (.aload_n 0, 1) := by decide +kernel
theorem dX5_goesOn_1 : decode cX5_goesOn 1 = .ok (.iload_n 1, 1) := by decide +kernel
theorem dX5_goesOn_2 : decode cX5_goesOn 2 = .ok (.invokevirtual 164, 3) := by decide +kernel
theorem dX5_goesOn_5 : decode cX5_goesOn 5 = .ok (.aload_n 0, 1) := by decide +kernel
theorem dX5_goesOn_6 : decode cX5_goesOn 6 = .ok (.iload_n 2, 1) := by decide +kernel
theorem dX5_goesOn_7 : decode cX5_goesOn 7 = .ok (.invokevirtual 167, 3) := by decide +kernel
theorem dX5_goesOn_10 : decode cX5_goesOn 10 = .ok (.ireturn, 1) := by decide +kernel
theorem dX5_greatest_0 : decode cX5_greatest 0 = .ok (.iconst 5, 1) := by decide +kernel
theorem dX5_greatest_1 : decode cX5_greatest 1 = .ok (.istore_n 1, 1) := by decide +kernel
theorem dX5_greatest_2 : decode cX5_greatest 2 = .ok (.iload_n 1, 1) := by decide +kernel
theorem dX5_greatest_3 : decode cX5_greatest 3 = .ok (.aload_n 0, 1) := by decide +kernel
theorem dX5_greatest_4 : decode cX5_greatest 4 = .ok (.getfield 26, 3) := by decide +kernel
theorem dX5_greatest_7 : decode cX5_greatest 7 = .ok (.iconst 0, 1) := by decide +kernel
theorem dX5_greatest_8 : decode cX5_greatest 8 = .ok (.iaload, 1) := by decide +kernel
theorem dX5_greatest_9 : decode cX5_greatest 9 = .ok (.if_icmp .lt 23, 3) := by decide +kernel
theorem dX5_greatest_12 : decode cX5_greatest 12 = .ok (.aload_n 0, 1) := by decide +kernel
theorem dX5_greatest_13 : decode cX5_greatest 13 = .ok (.iload_n 1, 1) := by decide +kernel
theorem dX5_greatest_14 : decode cX5_greatest 14 = .ok (.aload_n 0, 1) := by decide +kernel
theorem dX5_greatest_15 : decode cX5_greatest 15 = .ok (.invokevirtual 161, 3) := by decide +kernel
theorem dX5_greatest_18 : decode cX5_greatest 18 = .ok (.invokevirtual 170, 3) := by decide +kernel
theorem dX5_greatest_21 : decode cX5_greatest 21 = .ok (.ifCond .eq 5, 3) := by decide +kernel
theorem dX5_greatest_24 : decode cX5_greatest 24 = .ok (.iload_n 1, 1) := by decide +kernel
theorem dX5_greatest_25 : decode cX5_greatest 25 = .ok (.ireturn, 1) := by decide +kernel
theorem dX5_greatest_26 : decode cX5_greatest 26 = .ok (.iinc 1 (-1), 3) := by decide +kernel
theorem dX5_greatest_29 : decode cX5_greatest 29 = .ok (.goto (-27), 3) := by decide +kernel
theorem dX5_greatest_32 : decode cX5_greatest 32 = .ok (.bipush (-9), 2) := by decide +kernel
theorem dX5_greatest_34 : decode cX5_greatest 34 = .ok (.ireturn, 1) := by decide +kernel
theorem dX5_costOf_0 : decode cX5_costOf 0 = .ok (.iload_n 1, 1) := by decide +kernel
theorem dX5_costOf_1 : decode cX5_costOf 1 = .ok (.istore_n 2, 1) := by decide +kernel
theorem dX5_costOf_2 : decode cX5_costOf 2 = .ok (.aload_n 0, 1) := by decide +kernel
theorem dX5_costOf_3 : decode cX5_costOf 3 = .ok (.getfield 13, 3) := by decide +kernel
theorem dX5_costOf_6 : decode cX5_costOf 6 = .ok (.iconst 0, 1) := by decide +kernel
theorem dX5_costOf_7 : decode cX5_costOf 7 = .ok (.iaload, 1) := by decide +kernel
theorem dX5_costOf_8 : decode cX5_costOf 8 = .ok (.iconst 1, 1) := by decide +kernel
theorem dX5_costOf_9 : decode cX5_costOf 9 = .ok (.isub, 1) := by decide +kernel
theorem dX5_costOf_10 : decode cX5_costOf 10 = .ok (.istore_n 3, 1) := by decide +kernel
theorem dX5_costOf_11 : decode cX5_costOf 11 = .ok (.iload_n 3, 1) := by decide +kernel
theorem dX5_costOf_12 : decode cX5_costOf 12 = .ok (.ifCond .lt 24, 3) := by decide +kernel
theorem dX5_costOf_15 : decode cX5_costOf 15 = .ok (.aload_n 0, 1) := by decide +kernel
theorem dX5_costOf_16 : decode cX5_costOf 16 = .ok (.getfield 36, 3) := by decide +kernel
theorem dX5_costOf_19 : decode cX5_costOf 19 = .ok (.iload_n 3, 1) := by decide +kernel
theorem dX5_costOf_20 : decode cX5_costOf 20 = .ok (.iconst 5, 1) := by decide +kernel
theorem dX5_costOf_21 : decode cX5_costOf 21 = .ok (.iload_n 2, 1) := by decide +kernel
theorem dX5_costOf_22 : decode cX5_costOf 22 = .ok (.iconst 5, 1) := by decide +kernel
theorem dX5_costOf_23 : decode cX5_costOf 23 = .ok (.irem, 1) := by decide +kernel
theorem dX5_costOf_24 : decode cX5_costOf 24 = .ok (.isub, 1) := by decide +kernel
theorem dX5_costOf_25 : decode cX5_costOf 25 = .ok (.iastore, 1) := by decide +kernel
theorem dX5_costOf_26 : decode cX5_costOf 26 = .ok (.iload_n 2, 1) := by decide +kernel
theorem dX5_costOf_27 : decode cX5_costOf 27 = .ok (.iconst 5, 1) := by decide +kernel
theorem dX5_costOf_28 : decode cX5_costOf 28 = .ok (.idiv, 1) := by decide +kernel
theorem dX5_costOf_29 : decode cX5_costOf 29 = .ok (.istore_n 2, 1) := by decide +kernel
theorem dX5_costOf_30 : decode cX5_costOf 30 = .ok (.iinc 3 (-1), 3) := by decide +kernel
theorem dX5_costOf_33 : decode cX5_costOf 33 = .ok (.goto (-22), 3) := by decide +kernel
theorem dX5_costOf_36 : decode cX5_costOf 36 = .ok (.aload_n 0, 1) := by decide +kernel
theorem dX5_costOf_37 : decode cX5_costOf 37 = .ok (.iconst 0, 1) := by decide +kernel
theorem dX5_costOf_38 : decode cX5_costOf 38 = .ok (.putfield 140, 3) := by decide +kernel
theorem dX5_costOf_41 : decode cX5_costOf 41 = .ok (.aload_n 0, 1) := by decide +kernel
theorem dX5_costOf_42 : decode cX5_costOf 42 = .ok (.iconst 0, 1) := by decide +kernel
theorem dX5_costOf_43 : decode cX5_costOf 43 = .ok (.putfield 143, 3) := by decide +kernel
theorem dX5_costOf_46 : decode cX5_costOf 46 = .ok (.iconst 0, 1) := by decide +kernel
theorem dX5_costOf_47 : decode cX5_costOf 47 = .ok (.istore_n 3, 1) := by decide +kernel
theorem dX5_costOf_48 : decode cX5_costOf 48 = .ok (.iconst 0, 1) := by decide +kernel
theorem dX5_costOf_49 : decode cX5_costOf 49 = .ok (.istore 4, 2) := by decide +kernel
theorem dX5_costOf_51 : decode cX5_costOf 51 = .ok (.iload 4, 2) := by decide +kernel
theorem dX5_costOf_53 : decode cX5_costOf 53 = .ok (.aload_n 0, 1) := by decide +kernel
theorem dX5_costOf_54 : decode cX5_costOf 54 = .ok (.getfield 13, 3) := by decide +kernel
theorem dX5_costOf_57 : decode cX5_costOf 57 = .ok (.iconst 0, 1) := by decide +kernel
theorem dX5_costOf_58 : decode cX5_costOf 58 = .ok (.iaload, 1) := by decide +kernel
theorem dX5_costOf_59 : decode cX5_costOf 59 = .ok (.if_icmp .ge 88, 3) := by decide +kernel
theorem dX5_costOf_62 : decode cX5_costOf 62 = .ok (.aload_n 0, 1) := by decide +kernel
theorem dX5_costOf_63 : decode cX5_costOf 63 = .ok (.getfield 36, 3) := by decide +kernel
theorem dX5_costOf_66 : decode cX5_costOf 66 = .ok (.iload 4, 2) := by decide +kernel
theorem dX5_costOf_68 : decode cX5_costOf 68 = .ok (.iaload, 1) := by decide +kernel
theorem dX5_costOf_69 : decode cX5_costOf 69 = .ok (.aload_n 0, 1) := by decide +kernel
theorem dX5_costOf_70 : decode cX5_costOf 70 = .ok (.getfield 26, 3) := by decide +kernel
theorem dX5_costOf_73 : decode cX5_costOf 73 = .ok (.iconst 0, 1) := by decide +kernel
theorem dX5_costOf_74 : decode cX5_costOf 74 = .ok (.iaload, 1) := by decide +kernel
theorem dX5_costOf_75 : decode cX5_costOf 75 = .ok (.if_icmp .lt 27, 3) := by decide +kernel
theorem dX5_costOf_78 : decode cX5_costOf 78 = .ok (.iload 4, 2) := by decide +kernel
theorem dX5_costOf_80 : decode cX5_costOf 80 = .ok (.ifCond .le 25, 3) := by decide +kernel
theorem dX5_costOf_83 : decode cX5_costOf 83 = .ok (.aload_n 0, 1) := by decide +kernel
theorem dX5_costOf_84 : decode cX5_costOf 84 = .ok (.getfield 36, 3) := by decide +kernel
theorem dX5_costOf_87 : decode cX5_costOf 87 = .ok (.iload 4, 2) := by decide +kernel
theorem dX5_costOf_89 : decode cX5_costOf 89 = .ok (.iaload, 1) := by decide +kernel
theorem dX5_costOf_90 : decode cX5_costOf 90 = .ok (.aload_n 0, 1) := by decide +kernel
theorem dX5_costOf_91 : decode cX5_costOf 91 = .ok (.getfield 36, 3) := by decide +kernel
theorem dX5_costOf_94 : decode cX5_costOf 94 = .ok (.iload 4, 2) := by decide +kernel
theorem dX5_costOf_96 : decode cX5_costOf 96 = .ok (.iconst 1, 1) := by decide +kernel
theorem dX5_costOf_97 : decode cX5_costOf 97 = .ok (.isub, 1) := by decide +kernel
theorem dX5_costOf_98 : decode cX5_costOf 98 = .ok (.iaload, 1) := by decide +kernel
theorem dX5_costOf_99 : decode cX5_costOf 99 = .ok (.if_icmp .le 6, 3) := by decide +kernel
theorem dX5_costOf_102 : decode cX5_costOf 102 = .ok (.bipush (-9), 2) := by decide +kernel
theorem dX5_costOf_104 : decode cX5_costOf 104 = .ok (.ireturn, 1) := by decide +kernel
theorem dX5_costOf_105 : decode cX5_costOf 105 = .ok (.iload 4, 2) := by decide +kernel
theorem dX5_costOf_107 : decode cX5_costOf 107 = .ok (.ifCond .ne 7, 3) := by decide +kernel
theorem dX5_costOf_110 : decode cX5_costOf 110 = .ok (.iconst 0, 1) := by decide +kernel
theorem dX5_costOf_111 : decode cX5_costOf 111 = .ok (.goto 20, 3) := by decide +kernel
theorem dX5_costOf_114 : decode cX5_costOf 114 = .ok (.aload_n 0, 1) := by decide +kernel
theorem dX5_costOf_115 : decode cX5_costOf 115 = .ok (.getfield 36, 3) := by decide +kernel
theorem dX5_costOf_118 : decode cX5_costOf 118 = .ok (.iload 4, 2) := by decide +kernel
theorem dX5_costOf_120 : decode cX5_costOf 120 = .ok (.iconst 1, 1) := by decide +kernel
theorem dX5_costOf_121 : decode cX5_costOf 121 = .ok (.isub, 1) := by decide +kernel
theorem dX5_costOf_122 : decode cX5_costOf 122 = .ok (.iaload, 1) := by decide +kernel
theorem dX5_costOf_123 : decode cX5_costOf 123 = .ok (.aload_n 0, 1) := by decide +kernel
theorem dX5_costOf_124 : decode cX5_costOf 124 = .ok (.getfield 36, 3) := by decide +kernel
theorem dX5_costOf_127 : decode cX5_costOf 127 = .ok (.iload 4, 2) := by decide +kernel
theorem dX5_costOf_129 : decode cX5_costOf 129 = .ok (.iaload, 1) := by decide +kernel
theorem dX5_costOf_130 : decode cX5_costOf 130 = .ok (.isub, 1) := by decide +kernel
theorem dX5_costOf_131 : decode cX5_costOf 131 = .ok (.istore 5, 2) := by decide +kernel
theorem dX5_costOf_133 : decode cX5_costOf 133 = .ok (.iload_n 3, 1) := by decide +kernel
theorem dX5_costOf_134 : decode cX5_costOf 134 = .ok (.iload 5, 2) := by decide +kernel
theorem dX5_costOf_136 : decode cX5_costOf 136 = .ok (.iload 5, 2) := by decide +kernel
theorem dX5_costOf_138 : decode cX5_costOf 138 = .ok (.imul, 1) := by decide +kernel
theorem dX5_costOf_139 : decode cX5_costOf 139 = .ok (.iadd, 1) := by decide +kernel
theorem dX5_costOf_140 : decode cX5_costOf 140 = .ok (.istore_n 3, 1) := by decide +kernel
theorem dX5_costOf_141 : decode cX5_costOf 141 = .ok (.iinc 4 1, 3) := by decide +kernel
theorem dX5_costOf_144 : decode cX5_costOf 144 = .ok (.goto (-93), 3) := by decide +kernel
theorem dX5_costOf_147 : decode cX5_costOf 147 = .ok (.iload_n 3, 1) := by decide +kernel
theorem dX5_costOf_148 : decode cX5_costOf 148 = .ok (.ireturn, 1) := by decide +kernel
theorem dX5_even_0 : decode cX5_even 0 = .ok (.iload_n 1, 1) := by decide +kernel
theorem dX5_even_1 : decode cX5_even 1 = .ok (.iconst (-1), 1) := by decide +kernel
theorem dX5_even_2 : decode cX5_even 2 = .ok (.if_icmp .eq 13, 3) := by decide +kernel
theorem dX5_even_5 : decode cX5_even 5 = .ok (.aload_n 0, 1) := by decide +kernel
theorem dX5_even_6 : decode cX5_even 6 = .ok (.iload_n 1, 1) := by decide +kernel
theorem dX5_even_7 : decode cX5_even 7 = .ok (.invokevirtual 104, 3) := by decide +kernel
theorem dX5_even_10 : decode cX5_even 10 = .ok (.ifCond .ne 5, 3) := by decide +kernel
theorem dX5_even_13 : decode cX5_even 13 = .ok (.iconst (-1), 1) := by decide +kernel
theorem dX5_even_14 : decode cX5_even 14 = .ok (.ireturn, 1) := by decide +kernel
theorem dX5_even_15 : decode cX5_even 15 = .ok (.iconst 1, 1) := by decide +kernel
theorem dX5_even_16 : decode cX5_even 16 = .ok (.istore_n 2, 1) := by decide +kernel
theorem dX5_even_17 : decode cX5_even 17 = .ok (.iconst 0, 1) := by decide +kernel
theorem dX5_even_18 : decode cX5_even 18 = .ok (.istore_n 3, 1) := by decide +kernel
theorem dX5_even_19 : decode cX5_even 19 = .ok (.iload_n 3, 1) := by decide +kernel
theorem dX5_even_20 : decode cX5_even 20 = .ok (.aload_n 0, 1) := by decide +kernel
theorem dX5_even_21 : decode cX5_even 21 = .ok (.getfield 13, 3) := by decide +kernel
theorem dX5_even_24 : decode cX5_even 24 = .ok (.iconst 0, 1) := by decide +kernel
theorem dX5_even_25 : decode cX5_even 25 = .ok (.iaload, 1) := by decide +kernel
theorem dX5_even_26 : decode cX5_even 26 = .ok (.if_icmp .ge 13, 3) := by decide +kernel
theorem dX5_even_29 : decode cX5_even 29 = .ok (.iload_n 2, 1) := by decide +kernel
theorem dX5_even_30 : decode cX5_even 30 = .ok (.iconst 5, 1) := by decide +kernel
theorem dX5_even_31 : decode cX5_even 31 = .ok (.imul, 1) := by decide +kernel
theorem dX5_even_32 : decode cX5_even 32 = .ok (.istore_n 2, 1) := by decide +kernel
theorem dX5_even_33 : decode cX5_even 33 = .ok (.iinc 3 1, 3) := by decide +kernel
theorem dX5_even_36 : decode cX5_even 36 = .ok (.goto (-17), 3) := by decide +kernel
theorem dX5_even_39 : decode cX5_even 39 = .ok (.bipush (-9), 2) := by decide +kernel
theorem dX5_even_41 : decode cX5_even 41 = .ok (.istore_n 3, 1) := by decide +kernel
theorem dX5_even_42 : decode cX5_even 42 = .ok (.iconst 0, 1) := by decide +kernel
theorem dX5_even_43 : decode cX5_even 43 = .ok (.istore 4, 2) := by decide +kernel
theorem dX5_even_45 : decode cX5_even 45 = .ok (.iload 4, 2) := by decide +kernel
theorem dX5_even_47 : decode cX5_even 47 = .ok (.iload_n 2, 1) := by decide +kernel
theorem dX5_even_48 : decode cX5_even 48 = .ok (.if_icmp .ge 84, 3) := by decide +kernel
theorem dX5_even_51 : decode cX5_even 51 = .ok (.aload_n 0, 1) := by decide +kernel
theorem dX5_even_52 : decode cX5_even 52 = .ok (.iload 4, 2) := by decide +kernel
theorem dX5_even_54 : decode cX5_even 54 = .ok (.invokevirtual 173, 3) := by decide +kernel
theorem dX5_even_57 : decode cX5_even 57 = .ok (.istore 5, 2) := by decide +kernel
theorem dX5_even_59 : decode cX5_even 59 = .ok (.iload 5, 2) := by decide +kernel
theorem dX5_even_61 : decode cX5_even 61 = .ok (.bipush (-9), 2) := by decide +kernel
theorem dX5_even_63 : decode cX5_even 63 = .ok (.if_icmp .eq 63, 3) := by decide +kernel
theorem dX5_even_66 : decode cX5_even 66 = .ok (.iload_n 3, 1) := by decide +kernel
theorem dX5_even_67 : decode cX5_even 67 = .ok (.bipush (-9), 2) := by decide +kernel
theorem dX5_even_69 : decode cX5_even 69 = .ok (.if_icmp .eq 9, 3) := by decide +kernel
theorem dX5_even_72 : decode cX5_even 72 = .ok (.iload 5, 2) := by decide +kernel
theorem dX5_even_74 : decode cX5_even 74 = .ok (.iload_n 3, 1) := by decide +kernel
theorem dX5_even_75 : decode cX5_even 75 = .ok (.if_icmp .ge 51, 3) := by decide +kernel
theorem dX5_even_78 : decode cX5_even 78 = .ok (.aload_n 0, 1) := by decide +kernel
theorem dX5_even_79 : decode cX5_even 79 = .ok (.aload_n 0, 1) := by decide +kernel
theorem dX5_even_80 : decode cX5_even 80 = .ok (.invokevirtual 161, 3) := by decide +kernel
theorem dX5_even_83 : decode cX5_even 83 = .ok (.invokevirtual 167, 3) := by decide +kernel
theorem dX5_even_86 : decode cX5_even 86 = .ok (.ifCond .eq 40, 3) := by decide +kernel
theorem dX5_even_89 : decode cX5_even 89 = .ok (.iload 5, 2) := by decide +kernel
theorem dX5_even_91 : decode cX5_even 91 = .ok (.istore_n 3, 1) := by decide +kernel
theorem dX5_even_92 : decode cX5_even 92 = .ok (.iconst 0, 1) := by decide +kernel
theorem dX5_even_93 : decode cX5_even 93 = .ok (.istore 6, 2) := by decide +kernel
theorem dX5_even_95 : decode cX5_even 95 = .ok (.iload 6, 2) := by decide +kernel
theorem dX5_even_97 : decode cX5_even 97 = .ok (.aload_n 0, 1) := by decide +kernel
theorem dX5_even_98 : decode cX5_even 98 = .ok (.getfield 13, 3) := by decide +kernel
theorem dX5_even_101 : decode cX5_even 101 = .ok (.iconst 0, 1) := by decide +kernel
theorem dX5_even_102 : decode cX5_even 102 = .ok (.iaload, 1) := by decide +kernel
theorem dX5_even_103 : decode cX5_even 103 = .ok (.if_icmp .ge 23, 3) := by decide +kernel
theorem dX5_even_106 : decode cX5_even 106 = .ok (.aload_n 0, 1) := by decide +kernel
theorem dX5_even_107 : decode cX5_even 107 = .ok (.getfield 42, 3) := by decide +kernel
theorem dX5_even_110 : decode cX5_even 110 = .ok (.iload 6, 2) := by decide +kernel
theorem dX5_even_112 : decode cX5_even 112 = .ok (.aload_n 0, 1) := by decide +kernel
theorem dX5_even_113 : decode cX5_even 113 = .ok (.getfield 36, 3) := by decide +kernel
theorem dX5_even_116 : decode cX5_even 116 = .ok (.iload 6, 2) := by decide +kernel
theorem dX5_even_118 : decode cX5_even 118 = .ok (.iaload, 1) := by decide +kernel
theorem dX5_even_119 : decode cX5_even 119 = .ok (.iastore, 1) := by decide +kernel
theorem dX5_even_120 : decode cX5_even 120 = .ok (.iinc 6 1, 3) := by decide +kernel
theorem dX5_even_123 : decode cX5_even 123 = .ok (.goto (-28), 3) := by decide +kernel
theorem dX5_even_126 : decode cX5_even 126 = .ok (.iinc 4 1, 3) := by decide +kernel
theorem dX5_even_129 : decode cX5_even 129 = .ok (.goto (-84), 3) := by decide +kernel
theorem dX5_even_132 : decode cX5_even 132 = .ok (.iload_n 3, 1) := by decide +kernel
theorem dX5_even_133 : decode cX5_even 133 = .ok (.bipush (-9), 2) := by decide +kernel
theorem dX5_even_135 : decode cX5_even 135 = .ok (.if_icmp .eq 8, 3) := by decide +kernel
theorem dX5_even_138 : decode cX5_even 138 = .ok (.iload_n 1, 1) := by decide +kernel
theorem dX5_even_139 : decode cX5_even 139 = .ok (.iconst (-1), 1) := by decide +kernel
theorem dX5_even_140 : decode cX5_even 140 = .ok (.if_icmp .ne 7, 3) := by decide +kernel
theorem dX5_even_143 : decode cX5_even 143 = .ok (.iload_n 3, 1) := by decide +kernel
theorem dX5_even_144 : decode cX5_even 144 = .ok (.goto 9, 3) := by decide +kernel
theorem dX5_even_147 : decode cX5_even 147 = .ok (.aload_n 0, 1) := by decide +kernel
theorem dX5_even_148 : decode cX5_even 148 = .ok (.getfield 42, 3) := by decide +kernel
theorem dX5_even_151 : decode cX5_even 151 = .ok (.iload_n 1, 1) := by decide +kernel
theorem dX5_even_152 : decode cX5_even 152 = .ok (.iaload, 1) := by decide +kernel
theorem dX5_even_153 : decode cX5_even 153 = .ok (.ireturn, 1) := by decide +kernel
theorem dX5_hasNeeds_0 : decode cX5_hasNeeds 0 = .ok (.iconst 1, 1) := by decide +kernel
theorem dX5_hasNeeds_1 : decode cX5_hasNeeds 1 = .ok (.istore_n 2, 1) := by decide +kernel
theorem dX5_hasNeeds_2 : decode cX5_hasNeeds 2 = .ok (.iconst 0, 1) := by decide +kernel
theorem dX5_hasNeeds_3 : decode cX5_hasNeeds 3 = .ok (.istore_n 3, 1) := by decide +kernel
theorem dX5_hasNeeds_4 : decode cX5_hasNeeds 4 = .ok (.iload_n 3, 1) := by decide +kernel
theorem dX5_hasNeeds_5 : decode cX5_hasNeeds 5 = .ok (.aload_n 0, 1) := by decide +kernel
theorem dX5_hasNeeds_6 : decode cX5_hasNeeds 6 = .ok (.getfield 20, 3) := by decide +kernel
theorem dX5_hasNeeds_9 : decode cX5_hasNeeds 9 = .ok (.iconst 0, 1) := by decide +kernel
theorem dX5_hasNeeds_10 : decode cX5_hasNeeds 10 = .ok (.iaload, 1) := by decide +kernel
theorem dX5_hasNeeds_11 : decode cX5_hasNeeds 11 = .ok (.if_icmp .ge 52, 3) := by decide +kernel
theorem dX5_hasNeeds_14 : decode cX5_hasNeeds 14 = .ok (.aload_n 0, 1) := by decide +kernel
theorem dX5_hasNeeds_15 : decode cX5_hasNeeds 15 = .ok (.iload_n 3, 1) := by decide +kernel
theorem dX5_hasNeeds_16 : decode cX5_hasNeeds 16 = .ok (.iconst 2, 1) := by decide +kernel
theorem dX5_hasNeeds_17 : decode cX5_hasNeeds 17 = .ok (.invokevirtual 110, 3) := by decide +kernel
theorem dX5_hasNeeds_20 : decode cX5_hasNeeds 20 = .ok (.istore 4, 2) := by decide +kernel
theorem dX5_hasNeeds_22 : decode cX5_hasNeeds 22 = .ok (.iload_n 2, 1) := by decide +kernel
theorem dX5_hasNeeds_23 : decode cX5_hasNeeds 23 = .ok (.ifCond .eq 32, 3) := by decide +kernel
theorem dX5_hasNeeds_26 : decode cX5_hasNeeds 26 = .ok (.iload_n 1, 1) := by decide +kernel
theorem dX5_hasNeeds_27 : decode cX5_hasNeeds 27 = .ok (.iload_n 3, 1) := by decide +kernel
theorem dX5_hasNeeds_28 : decode cX5_hasNeeds 28 = .ok (.ishr, 1) := by decide +kernel
theorem dX5_hasNeeds_29 : decode cX5_hasNeeds 29 = .ok (.iconst 1, 1) := by decide +kernel
theorem dX5_hasNeeds_30 : decode cX5_hasNeeds 30 = .ok (.iand, 1) := by decide +kernel
theorem dX5_hasNeeds_31 : decode cX5_hasNeeds 31 = .ok (.ifCond .eq 20, 3) := by decide +kernel
theorem dX5_hasNeeds_34 : decode cX5_hasNeeds 34 = .ok (.iload 4, 2) := by decide +kernel
theorem dX5_hasNeeds_36 : decode cX5_hasNeeds 36 = .ok (.bipush 99, 2) := by decide +kernel
theorem dX5_hasNeeds_38 : decode cX5_hasNeeds 38 = .ok (.if_icmp .eq 13, 3) := by decide +kernel
theorem dX5_hasNeeds_41 : decode cX5_hasNeeds 41 = .ok (.iload_n 1, 1) := by decide +kernel
theorem dX5_hasNeeds_42 : decode cX5_hasNeeds 42 = .ok (.iload 4, 2) := by decide +kernel
theorem dX5_hasNeeds_44 : decode cX5_hasNeeds 44 = .ok (.ishr, 1) := by decide +kernel
theorem dX5_hasNeeds_45 : decode cX5_hasNeeds 45 = .ok (.iconst 1, 1) := by decide +kernel
theorem dX5_hasNeeds_46 : decode cX5_hasNeeds 46 = .ok (.iand, 1) := by decide +kernel
theorem dX5_hasNeeds_47 : decode cX5_hasNeeds 47 = .ok (.iconst 1, 1) := by decide +kernel
theorem dX5_hasNeeds_48 : decode cX5_hasNeeds 48 = .ok (.if_icmp .ne 7, 3) := by decide +kernel
theorem dX5_hasNeeds_51 : decode cX5_hasNeeds 51 = .ok (.iconst 1, 1) := by decide +kernel
theorem dX5_hasNeeds_52 : decode cX5_hasNeeds 52 = .ok (.goto 4, 3) := by decide +kernel
theorem dX5_hasNeeds_55 : decode cX5_hasNeeds 55 = .ok (.iconst 0, 1) := by decide +kernel
theorem dX5_hasNeeds_56 : decode cX5_hasNeeds 56 = .ok (.istore_n 2, 1) := by decide +kernel
theorem dX5_hasNeeds_57 : decode cX5_hasNeeds 57 = .ok (.iinc 3 1, 3) := by decide +kernel
theorem dX5_hasNeeds_60 : decode cX5_hasNeeds 60 = .ok (.goto (-56), 3) := by decide +kernel
theorem dX5_hasNeeds_63 : decode cX5_hasNeeds 63 = .ok (.iload_n 2, 1) := by decide +kernel
theorem dX5_hasNeeds_64 : decode cX5_hasNeeds 64 = .ok (.ireturn, 1) := by decide +kernel
theorem dX5_bestSet_0 : decode cX5_bestSet 0 = .ok (.iconst 0, 1) := by decide +kernel
theorem dX5_bestSet_1 : decode cX5_bestSet 1 = .ok (.istore_n 3, 1) := by decide +kernel
theorem dX5_bestSet_2 : decode cX5_bestSet 2 = .ok (.iconst 1, 1) := by decide +kernel
theorem dX5_bestSet_3 : decode cX5_bestSet 3 = .ok (.istore 4, 2) := by decide +kernel
theorem dX5_bestSet_5 : decode cX5_bestSet 5 = .ok (.iload 4, 2) := by decide +kernel
theorem dX5_bestSet_7 : decode cX5_bestSet 7 = .ok (.aload_n 0, 1) := by decide +kernel
theorem dX5_bestSet_8 : decode cX5_bestSet 8 = .ok (.invokevirtual 161, 3) := by decide +kernel
theorem dX5_bestSet_11 : decode cX5_bestSet 11 = .ok (.if_icmp .gt 100, 3) := by decide +kernel
theorem dX5_bestSet_14 : decode cX5_bestSet 14 = .ok (.aload_n 0, 1) := by decide +kernel
theorem dX5_bestSet_15 : decode cX5_bestSet 15 = .ok (.iload 4, 2) := by decide +kernel
theorem dX5_bestSet_17 : decode cX5_bestSet 17 = .ok (.iconst 1, 1) := by decide +kernel
theorem dX5_bestSet_18 : decode cX5_bestSet 18 = .ok (.invokevirtual 137, 3) := by decide +kernel
theorem dX5_bestSet_21 : decode cX5_bestSet 21 = .ok (.aload_n 0, 1) := by decide +kernel
theorem dX5_bestSet_22 : decode cX5_bestSet 22 = .ok (.iload_n 3, 1) := by decide +kernel
theorem dX5_bestSet_23 : decode cX5_bestSet 23 = .ok (.iconst 1, 1) := by decide +kernel
theorem dX5_bestSet_24 : decode cX5_bestSet 24 = .ok (.invokevirtual 137, 3) := by decide +kernel
theorem dX5_bestSet_27 : decode cX5_bestSet 27 = .ok (.isub, 1) := by decide +kernel
theorem dX5_bestSet_28 : decode cX5_bestSet 28 = .ok (.istore 5, 2) := by decide +kernel
theorem dX5_bestSet_30 : decode cX5_bestSet 30 = .ok (.iload 5, 2) := by decide +kernel
theorem dX5_bestSet_32 : decode cX5_bestSet 32 = .ok (.ifCond .gt 24, 3) := by decide +kernel
theorem dX5_bestSet_35 : decode cX5_bestSet 35 = .ok (.iload 5, 2) := by decide +kernel
theorem dX5_bestSet_37 : decode cX5_bestSet 37 = .ok (.ifCond .ne 23, 3) := by decide +kernel
theorem dX5_bestSet_40 : decode cX5_bestSet 40 = .ok (.aload_n 0, 1) := by decide +kernel
theorem dX5_bestSet_41 : decode cX5_bestSet 41 = .ok (.iload 4, 2) := by decide +kernel
theorem dX5_bestSet_43 : decode cX5_bestSet 43 = .ok (.iconst 0, 1) := by decide +kernel
theorem dX5_bestSet_44 : decode cX5_bestSet 44 = .ok (.invokevirtual 137, 3) := by decide +kernel
theorem dX5_bestSet_47 : decode cX5_bestSet 47 = .ok (.aload_n 0, 1) := by decide +kernel
theorem dX5_bestSet_48 : decode cX5_bestSet 48 = .ok (.iload_n 3, 1) := by decide +kernel
theorem dX5_bestSet_49 : decode cX5_bestSet 49 = .ok (.iconst 0, 1) := by decide +kernel
theorem dX5_bestSet_50 : decode cX5_bestSet 50 = .ok (.invokevirtual 137, 3) := by decide +kernel
theorem dX5_bestSet_53 : decode cX5_bestSet 53 = .ok (.if_icmp .ge 7, 3) := by decide +kernel
theorem dX5_bestSet_56 : decode cX5_bestSet 56 = .ok (.iconst 1, 1) := by decide +kernel
theorem dX5_bestSet_57 : decode cX5_bestSet 57 = .ok (.goto 4, 3) := by decide +kernel
theorem dX5_bestSet_60 : decode cX5_bestSet 60 = .ok (.iconst 0, 1) := by decide +kernel
theorem dX5_bestSet_61 : decode cX5_bestSet 61 = .ok (.istore 6, 2) := by decide +kernel
theorem dX5_bestSet_63 : decode cX5_bestSet 63 = .ok (.iload 6, 2) := by decide +kernel
theorem dX5_bestSet_65 : decode cX5_bestSet 65 = .ok (.ifCond .eq 40, 3) := by decide +kernel
theorem dX5_bestSet_68 : decode cX5_bestSet 68 = .ok (.iload 4, 2) := by decide +kernel
theorem dX5_bestSet_70 : decode cX5_bestSet 70 = .ok (.invokestatic 127, 3) := by decide +kernel
theorem dX5_bestSet_73 : decode cX5_bestSet 73 = .ok (.iload_n 1, 1) := by decide +kernel
theorem dX5_bestSet_74 : decode cX5_bestSet 74 = .ok (.if_icmp .gt 31, 3) := by decide +kernel
theorem dX5_bestSet_77 : decode cX5_bestSet 77 = .ok (.aload_n 0, 1) := by decide +kernel
theorem dX5_bestSet_78 : decode cX5_bestSet 78 = .ok (.iload 4, 2) := by decide +kernel
theorem dX5_bestSet_80 : decode cX5_bestSet 80 = .ok (.invokevirtual 176, 3) := by decide +kernel
theorem dX5_bestSet_83 : decode cX5_bestSet 83 = .ok (.ifCond .eq 22, 3) := by decide +kernel
theorem dX5_bestSet_86 : decode cX5_bestSet 86 = .ok (.iload_n 2, 1) := by decide +kernel
theorem dX5_bestSet_87 : decode cX5_bestSet 87 = .ok (.bipush (-9), 2) := by decide +kernel
theorem dX5_bestSet_89 : decode cX5_bestSet 89 = .ok (.if_icmp .eq 13, 3) := by decide +kernel
theorem dX5_bestSet_92 : decode cX5_bestSet 92 = .ok (.aload_n 0, 1) := by decide +kernel
theorem dX5_bestSet_93 : decode cX5_bestSet 93 = .ok (.iload_n 2, 1) := by decide +kernel
theorem dX5_bestSet_94 : decode cX5_bestSet 94 = .ok (.iload 4, 2) := by decide +kernel
theorem dX5_bestSet_96 : decode cX5_bestSet 96 = .ok (.invokevirtual 170, 3) := by decide +kernel
theorem dX5_bestSet_99 : decode cX5_bestSet 99 = .ok (.ifCond .eq 6, 3) := by decide +kernel
theorem dX5_bestSet_102 : decode cX5_bestSet 102 = .ok (.iload 4, 2) := by decide +kernel
theorem dX5_bestSet_104 : decode cX5_bestSet 104 = .ok (.istore_n 3, 1) := by decide +kernel
theorem dX5_bestSet_105 : decode cX5_bestSet 105 = .ok (.iinc 4 1, 3) := by decide +kernel
theorem dX5_bestSet_108 : decode cX5_bestSet 108 = .ok (.goto (-103), 3) := by decide +kernel
theorem dX5_bestSet_111 : decode cX5_bestSet 111 = .ok (.iload_n 3, 1) := by decide +kernel
theorem dX5_bestSet_112 : decode cX5_bestSet 112 = .ok (.ireturn, 1) := by decide +kernel
theorem dX5_kept_0 : decode cX5_kept 0 = .ok (.aload_n 0, 1) := by decide +kernel
theorem dX5_kept_1 : decode cX5_kept 1 = .ok (.iload_n 1, 1) := by decide +kernel
theorem dX5_kept_2 : decode cX5_kept 2 = .ok (.invokevirtual 158, 3) := by decide +kernel
theorem dX5_kept_5 : decode cX5_kept 5 = .ok (.ifCond .eq 12, 3) := by decide +kernel
theorem dX5_kept_8 : decode cX5_kept 8 = .ok (.iload_n 2, 1) := by decide +kernel
theorem dX5_kept_9 : decode cX5_kept 9 = .ok (.iconst 0, 1) := by decide +kernel
theorem dX5_kept_10 : decode cX5_kept 10 = .ok (.iconst 1, 1) := by decide +kernel
theorem dX5_kept_11 : decode cX5_kept 11 = .ok (.invokestatic 51, 3) := by decide +kernel
theorem dX5_kept_14 : decode cX5_kept 14 = .ok (.ifCond .ne 5, 3) := by decide +kernel
theorem dX5_kept_17 : decode cX5_kept 17 = .ok (.iconst (-1), 1) := by decide +kernel
theorem dX5_kept_18 : decode cX5_kept 18 = .ok (.ireturn, 1) := by decide +kernel
theorem dX5_kept_19 : decode cX5_kept 19 = .ok (.aload_n 0, 1) := by decide +kernel
theorem dX5_kept_20 : decode cX5_kept 20 = .ok (.bipush 10, 2) := by decide +kernel
theorem dX5_kept_22 : decode cX5_kept 22 = .ok (.iload_n 1, 1) := by decide +kernel
theorem dX5_kept_23 : decode cX5_kept 23 = .ok (.invokevirtual 179, 3) := by decide +kernel
theorem dX5_kept_26 : decode cX5_kept 26 = .ok (.istore_n 3, 1) := by decide +kernel
theorem dX5_kept_27 : decode cX5_kept 27 = .ok (.iload_n 2, 1) := by decide +kernel
theorem dX5_kept_28 : decode cX5_kept 28 = .ok (.ifCond .ne 12, 3) := by decide +kernel
theorem dX5_kept_31 : decode cX5_kept 31 = .ok (.aload_n 0, 1) := by decide +kernel
theorem dX5_kept_32 : decode cX5_kept 32 = .ok (.iload_n 3, 1) := by decide +kernel
theorem dX5_kept_33 : decode cX5_kept 33 = .ok (.iconst 1, 1) := by decide +kernel
theorem dX5_kept_34 : decode cX5_kept 34 = .ok (.invokevirtual 137, 3) := by decide +kernel
theorem dX5_kept_37 : decode cX5_kept 37 = .ok (.goto 4, 3) := by decide +kernel
theorem dX5_kept_40 : decode cX5_kept 40 = .ok (.iload_n 3, 1) := by decide +kernel
theorem dX5_kept_41 : decode cX5_kept 41 = .ok (.ireturn, 1) := by decide +kernel
theorem dX5_telegram_0 : decode cX5_telegram 0 = .ok (.iload_n 1, 1) := by decide +kernel
theorem dX5_telegram_1 : decode cX5_telegram 1 = .ok (.iconst 0, 1) := by decide +kernel
theorem dX5_telegram_2 : decode cX5_telegram 2 = .ok (.bipush 10, 2) := by decide +kernel
theorem dX5_telegram_4 : decode cX5_telegram 4 = .ok (.invokestatic 51, 3) := by decide +kernel
theorem dX5_telegram_7 : decode cX5_telegram 7 = .ok (.ifCond .eq 12, 3) := by decide +kernel
theorem dX5_telegram_10 : decode cX5_telegram 10 = .ok (.iload_n 2, 1) := by decide +kernel
theorem dX5_telegram_11 : decode cX5_telegram 11 = .ok (.iconst 0, 1) := by decide +kernel
theorem dX5_telegram_12 : decode cX5_telegram 12 = .ok (.iconst 1, 1) := by decide +kernel
theorem dX5_telegram_13 : decode cX5_telegram 13 = .ok (.invokestatic 51, 3) := by decide +kernel
theorem dX5_telegram_16 : decode cX5_telegram 16 = .ok (.ifCond .ne 5, 3) := by decide +kernel
theorem dX5_telegram_19 : decode cX5_telegram 19 = .ok (.iconst (-1), 1) := by decide +kernel
theorem dX5_telegram_20 : decode cX5_telegram 20 = .ok (.ireturn, 1) := by decide +kernel
theorem dX5_telegram_21 : decode cX5_telegram 21 = .ok (.aload_n 0, 1) := by decide +kernel
theorem dX5_telegram_22 : decode cX5_telegram 22 = .ok (.iload_n 1, 1) := by decide +kernel
theorem dX5_telegram_23 : decode cX5_telegram 23 = .ok (.bipush (-9), 2) := by decide +kernel
theorem dX5_telegram_25 : decode cX5_telegram 25 = .ok (.invokevirtual 179, 3) := by decide +kernel
theorem dX5_telegram_28 : decode cX5_telegram 28 = .ok (.istore_n 3, 1) := by decide +kernel
theorem dX5_telegram_29 : decode cX5_telegram 29 = .ok (.iload_n 2, 1) := by decide +kernel
theorem dX5_telegram_30 : decode cX5_telegram 30 = .ok (.ifCond .ne 12, 3) := by decide +kernel
theorem dX5_telegram_33 : decode cX5_telegram 33 = .ok (.aload_n 0, 1) := by decide +kernel
theorem dX5_telegram_34 : decode cX5_telegram 34 = .ok (.iload_n 3, 1) := by decide +kernel
theorem dX5_telegram_35 : decode cX5_telegram 35 = .ok (.iconst 1, 1) := by decide +kernel
theorem dX5_telegram_36 : decode cX5_telegram 36 = .ok (.invokevirtual 137, 3) := by decide +kernel
theorem dX5_telegram_39 : decode cX5_telegram 39 = .ok (.goto 4, 3) := by decide +kernel
theorem dX5_telegram_42 : decode cX5_telegram 42 = .ok (.iload_n 3, 1) := by decide +kernel
theorem dX5_telegram_43 : decode cX5_telegram 43 = .ok (.ireturn, 1) := by decide +kernel
theorem dX5_begun_0 : decode cX5_begun 0 = .ok (.aload_n 0, 1) := by decide +kernel
theorem dX5_begun_1 : decode cX5_begun 1 = .ok (.iload_n 1, 1) := by decide +kernel
theorem dX5_begun_2 : decode cX5_begun 2 = .ok (.invokevirtual 158, 3) := by decide +kernel
theorem dX5_begun_5 : decode cX5_begun 5 = .ok (.ifCond .eq 13, 3) := by decide +kernel
theorem dX5_begun_8 : decode cX5_begun 8 = .ok (.iload_n 2, 1) := by decide +kernel
theorem dX5_begun_9 : decode cX5_begun 9 = .ok (.iconst 0, 1) := by decide +kernel
theorem dX5_begun_10 : decode cX5_begun 10 = .ok (.bipush 60, 2) := by decide +kernel
theorem dX5_begun_12 : decode cX5_begun 12 = .ok (.invokestatic 51, 3) := by decide +kernel
theorem dX5_begun_15 : decode cX5_begun 15 = .ok (.ifCond .ne 5, 3) := by decide +kernel
theorem dX5_begun_18 : decode cX5_begun 18 = .ok (.iconst (-1), 1) := by decide +kernel
theorem dX5_begun_19 : decode cX5_begun 19 = .ok (.ireturn, 1) := by decide +kernel
theorem dX5_begun_20 : decode cX5_begun 20 = .ok (.aload_n 0, 1) := by decide +kernel
theorem dX5_begun_21 : decode cX5_begun 21 = .ok (.iload_n 1, 1) := by decide +kernel
theorem dX5_begun_22 : decode cX5_begun 22 = .ok (.invokevirtual 164, 3) := by decide +kernel
theorem dX5_begun_25 : decode cX5_begun 25 = .ok (.aload_n 0, 1) := by decide +kernel
theorem dX5_begun_26 : decode cX5_begun 26 = .ok (.iload_n 2, 1) := by decide +kernel
theorem dX5_begun_27 : decode cX5_begun 27 = .ok (.putfield 140, 3) := by decide +kernel
theorem dX5_begun_30 : decode cX5_begun 30 = .ok (.aload_n 0, 1) := by decide +kernel
theorem dX5_begun_31 : decode cX5_begun 31 = .ok (.aload_n 0, 1) := by decide +kernel
theorem dX5_begun_32 : decode cX5_begun 32 = .ok (.invokevirtual 161, 3) := by decide +kernel
theorem dX5_begun_35 : decode cX5_begun 35 = .ok (.invokevirtual 167, 3) := by decide +kernel
theorem dX5_begun_38 : decode cX5_begun 38 = .ok (.pop, 1) := by decide +kernel
theorem dX5_begun_39 : decode cX5_begun 39 = .ok (.aload_n 0, 1) := by decide +kernel
theorem dX5_begun_40 : decode cX5_begun 40 = .ok (.getfield 146, 3) := by decide +kernel
theorem dX5_begun_43 : decode cX5_begun 43 = .ok (.ireturn, 1) := by decide +kernel
theorem dX5_odds_0 : decode cX5_odds 0 = .ok (.aload_n 0, 1) := by decide +kernel
theorem dX5_odds_1 : decode cX5_odds 1 = .ok (.iload_n 1, 1) := by decide +kernel
theorem dX5_odds_2 : decode cX5_odds 2 = .ok (.invokevirtual 158, 3) := by decide +kernel
theorem dX5_odds_5 : decode cX5_odds 5 = .ok (.ifCond .eq 22, 3) := by decide +kernel
theorem dX5_odds_8 : decode cX5_odds 8 = .ok (.iload_n 2, 1) := by decide +kernel
theorem dX5_odds_9 : decode cX5_odds 9 = .ok (.iconst 0, 1) := by decide +kernel
theorem dX5_odds_10 : decode cX5_odds 10 = .ok (.bipush 10, 2) := by decide +kernel
theorem dX5_odds_12 : decode cX5_odds 12 = .ok (.invokestatic 51, 3) := by decide +kernel
theorem dX5_odds_15 : decode cX5_odds 15 = .ok (.ifCond .eq 12, 3) := by decide +kernel
theorem dX5_odds_18 : decode cX5_odds 18 = .ok (.iload_n 3, 1) := by decide +kernel
theorem dX5_odds_19 : decode cX5_odds 19 = .ok (.iconst 0, 1) := by decide +kernel
theorem dX5_odds_20 : decode cX5_odds 20 = .ok (.iconst 1, 1) := by decide +kernel
theorem dX5_odds_21 : decode cX5_odds 21 = .ok (.invokestatic 51, 3) := by decide +kernel
theorem dX5_odds_24 : decode cX5_odds 24 = .ok (.ifCond .ne 7, 3) := by decide +kernel
theorem dX5_odds_27 : decode cX5_odds 27 = .ok (.ldc2_w 182, 3) := by decide +kernel
theorem dX5_odds_30 : decode cX5_odds 30 = .ok (.lreturn, 1) := by decide +kernel
theorem dX5_odds_31 : decode cX5_odds 31 = .ok (.aload_n 0, 1) := by decide +kernel
theorem dX5_odds_32 : decode cX5_odds 32 = .ok (.getfield 20, 3) := by decide +kernel
theorem dX5_odds_35 : decode cX5_odds 35 = .ok (.iconst 0, 1) := by decide +kernel
theorem dX5_odds_36 : decode cX5_odds 36 = .ok (.iaload, 1) := by decide +kernel
theorem dX5_odds_37 : decode cX5_odds 37 = .ok (.bipush 9, 2) := by decide +kernel
theorem dX5_odds_39 : decode cX5_odds 39 = .ok (.if_icmp .ge 12, 3) := by decide +kernel
theorem dX5_odds_42 : decode cX5_odds 42 = .ok (.aload_n 0, 1) := by decide +kernel
theorem dX5_odds_43 : decode cX5_odds 43 = .ok (.getfield 20, 3) := by decide +kernel
theorem dX5_odds_46 : decode cX5_odds 46 = .ok (.iconst 0, 1) := by decide +kernel
theorem dX5_odds_47 : decode cX5_odds 47 = .ok (.iaload, 1) := by decide +kernel
theorem dX5_odds_48 : decode cX5_odds 48 = .ok (.goto 5, 3) := by decide +kernel
theorem dX5_odds_51 : decode cX5_odds 51 = .ok (.bipush 9, 2) := by decide +kernel
theorem dX5_odds_53 : decode cX5_odds 53 = .ok (.istore 4, 2) := by decide +kernel
theorem dX5_odds_55 : decode cX5_odds 55 = .ok (.lconst 0, 1) := by decide +kernel
theorem dX5_odds_56 : decode cX5_odds 56 = .ok (.lstore 5, 2) := by decide +kernel
theorem dX5_odds_58 : decode cX5_odds 58 = .ok (.iconst 0, 1) := by decide +kernel
theorem dX5_odds_59 : decode cX5_odds 59 = .ok (.istore 7, 2) := by decide +kernel
theorem dX5_odds_61 : decode cX5_odds 61 = .ok (.iload 7, 2) := by decide +kernel
theorem dX5_odds_63 : decode cX5_odds 63 = .ok (.iconst 1, 1) := by decide +kernel
theorem dX5_odds_64 : decode cX5_odds 64 = .ok (.iload 4, 2) := by decide +kernel
theorem dX5_odds_66 : decode cX5_odds 66 = .ok (.ishl, 1) := by decide +kernel
theorem dX5_odds_67 : decode cX5_odds 67 = .ok (.if_icmp .ge 94, 3) := by decide +kernel
theorem dX5_odds_70 : decode cX5_odds 70 = .ok (.lconst 1, 1) := by decide +kernel
theorem dX5_odds_71 : decode cX5_odds 71 = .ok (.lstore 8, 2) := by decide +kernel
theorem dX5_odds_73 : decode cX5_odds 73 = .ok (.iconst 0, 1) := by decide +kernel
theorem dX5_odds_74 : decode cX5_odds 74 = .ok (.istore 10, 2) := by decide +kernel
theorem dX5_odds_76 : decode cX5_odds 76 = .ok (.iload 10, 2) := by decide +kernel
theorem dX5_odds_78 : decode cX5_odds 78 = .ok (.iload 4, 2) := by decide +kernel
theorem dX5_odds_80 : decode cX5_odds 80 = .ok (.if_icmp .ge 35, 3) := by decide +kernel
theorem dX5_odds_83 : decode cX5_odds 83 = .ok (.lload 8, 2) := by decide +kernel
theorem dX5_odds_85 : decode cX5_odds 85 = .ok (.iload 7, 2) := by decide +kernel
theorem dX5_odds_87 : decode cX5_odds 87 = .ok (.iload 10, 2) := by decide +kernel
theorem dX5_odds_89 : decode cX5_odds 89 = .ok (.ishr, 1) := by decide +kernel
theorem dX5_odds_90 : decode cX5_odds 90 = .ok (.iconst 1, 1) := by decide +kernel
theorem dX5_odds_91 : decode cX5_odds 91 = .ok (.iand, 1) := by decide +kernel
theorem dX5_odds_92 : decode cX5_odds 92 = .ok (.iconst 1, 1) := by decide +kernel
theorem dX5_odds_93 : decode cX5_odds 93 = .ok (.if_icmp .ne 8, 3) := by decide +kernel
theorem dX5_odds_96 : decode cX5_odds 96 = .ok (.iload_n 2, 1) := by decide +kernel
theorem dX5_odds_97 : decode cX5_odds 97 = .ok (.i2l, 1) := by decide +kernel
theorem dX5_odds_98 : decode cX5_odds 98 = .ok (.goto 8, 3) := by decide +kernel
theorem dX5_odds_101 : decode cX5_odds 101 = .ok (.bipush 10, 2) := by decide +kernel
theorem dX5_odds_103 : decode cX5_odds 103 = .ok (.iload_n 2, 1) := by decide +kernel
theorem dX5_odds_104 : decode cX5_odds 104 = .ok (.isub, 1) := by decide +kernel
theorem dX5_odds_105 : decode cX5_odds 105 = .ok (.i2l, 1) := by decide +kernel
theorem dX5_odds_106 : decode cX5_odds 106 = .ok (.lmul, 1) := by decide +kernel
theorem dX5_odds_107 : decode cX5_odds 107 = .ok (.lstore 8, 2) := by decide +kernel
theorem dX5_odds_109 : decode cX5_odds 109 = .ok (.iinc 10 1, 3) := by decide +kernel
theorem dX5_odds_112 : decode cX5_odds 112 = .ok (.goto (-36), 3) := by decide +kernel
theorem dX5_odds_115 : decode cX5_odds 115 = .ok (.aload_n 0, 1) := by decide +kernel
theorem dX5_odds_116 : decode cX5_odds 116 = .ok (.iload_n 1, 1) := by decide +kernel
theorem dX5_odds_117 : decode cX5_odds 117 = .ok (.invokevirtual 164, 3) := by decide +kernel
theorem dX5_odds_120 : decode cX5_odds 120 = .ok (.aload_n 0, 1) := by decide +kernel
theorem dX5_odds_121 : decode cX5_odds 121 = .ok (.iload 7, 2) := by decide +kernel
theorem dX5_odds_123 : decode cX5_odds 123 = .ok (.putfield 143, 3) := by decide +kernel
theorem dX5_odds_126 : decode cX5_odds 126 = .ok (.lload 5, 2) := by decide +kernel
theorem dX5_odds_128 : decode cX5_odds 128 = .ok (.lload 8, 2) := by decide +kernel
theorem dX5_odds_130 : decode cX5_odds 130 = .ok (.lconst 0, 1) := by decide +kernel
theorem dX5_odds_131 : decode cX5_odds 131 = .ok (.lcmp, 1) := by decide +kernel
theorem dX5_odds_132 : decode cX5_odds 132 = .ok (.ifCond .le 19, 3) := by decide +kernel
theorem dX5_odds_135 : decode cX5_odds 135 = .ok (.aload_n 0, 1) := by decide +kernel
theorem dX5_odds_136 : decode cX5_odds 136 = .ok (.aload_n 0, 1) := by decide +kernel
theorem dX5_odds_137 : decode cX5_odds 137 = .ok (.invokevirtual 161, 3) := by decide +kernel
theorem dX5_odds_140 : decode cX5_odds 140 = .ok (.invokevirtual 167, 3) := by decide +kernel
theorem dX5_odds_143 : decode cX5_odds 143 = .ok (.ifCond .eq 8, 3) := by decide +kernel
theorem dX5_odds_146 : decode cX5_odds 146 = .ok (.lload 8, 2) := by decide +kernel
theorem dX5_odds_148 : decode cX5_odds 148 = .ok (.goto 4, 3) := by decide +kernel
theorem dX5_odds_151 : decode cX5_odds 151 = .ok (.lconst 0, 1) := by decide +kernel
theorem dX5_odds_152 : decode cX5_odds 152 = .ok (.ladd, 1) := by decide +kernel
theorem dX5_odds_153 : decode cX5_odds 153 = .ok (.lstore 5, 2) := by decide +kernel
theorem dX5_odds_155 : decode cX5_odds 155 = .ok (.iinc 7 1, 3) := by decide +kernel
theorem dX5_odds_158 : decode cX5_odds 158 = .ok (.goto (-97), 3) := by decide +kernel
theorem dX5_odds_161 : decode cX5_odds 161 = .ok (.lconst 1, 1) := by decide +kernel
theorem dX5_odds_162 : decode cX5_odds 162 = .ok (.lstore 7, 2) := by decide +kernel
theorem dX5_odds_164 : decode cX5_odds 164 = .ok (.iconst 0, 1) := by decide +kernel
theorem dX5_odds_165 : decode cX5_odds 165 = .ok (.istore 9, 2) := by decide +kernel
theorem dX5_odds_167 : decode cX5_odds 167 = .ok (.iload 9, 2) := by decide +kernel
theorem dX5_odds_169 : decode cX5_odds 169 = .ok (.iload 4, 2) := by decide +kernel
theorem dX5_odds_171 : decode cX5_odds 171 = .ok (.if_icmp .ge 17, 3) := by decide +kernel
theorem dX5_odds_174 : decode cX5_odds 174 = .ok (.lload 7, 2) := by decide +kernel
theorem dX5_odds_176 : decode cX5_odds 176 = .ok (.ldc2_w 184, 3) := by decide +kernel
theorem dX5_odds_179 : decode cX5_odds 179 = .ok (.lmul, 1) := by decide +kernel
theorem dX5_odds_180 : decode cX5_odds 180 = .ok (.lstore 7, 2) := by decide +kernel
theorem dX5_odds_182 : decode cX5_odds 182 = .ok (.iinc 9 1, 3) := by decide +kernel
theorem dX5_odds_185 : decode cX5_odds 185 = .ok (.goto (-18), 3) := by decide +kernel
theorem dX5_odds_188 : decode cX5_odds 188 = .ok (.lload 5, 2) := by decide +kernel
theorem dX5_odds_190 : decode cX5_odds 190 = .ok (.lstore 9, 2) := by decide +kernel
theorem dX5_odds_192 : decode cX5_odds 192 = .ok (.lload 7, 2) := by decide +kernel
theorem dX5_odds_194 : decode cX5_odds 194 = .ok (.lstore 11, 2) := by decide +kernel
theorem dX5_odds_196 : decode cX5_odds 196 = .ok (.lload 11, 2) := by decide +kernel
theorem dX5_odds_198 : decode cX5_odds 198 = .ok (.lconst 0, 1) := by decide +kernel
theorem dX5_odds_199 : decode cX5_odds 199 = .ok (.lcmp, 1) := by decide +kernel
theorem dX5_odds_200 : decode cX5_odds 200 = .ok (.ifCond .eq 21, 3) := by decide +kernel
theorem dX5_odds_203 : decode cX5_odds 203 = .ok (.lload 9, 2) := by decide +kernel
theorem dX5_odds_205 : decode cX5_odds 205 = .ok (.lload 11, 2) := by decide +kernel
theorem dX5_odds_207 : decode cX5_odds 207 = .ok (.lrem, 1) := by decide +kernel
theorem dX5_odds_208 : decode cX5_odds 208 = .ok (.lstore 13, 2) := by decide +kernel
theorem dX5_odds_210 : decode cX5_odds 210 = .ok (.lload 11, 2) := by decide +kernel
theorem dX5_odds_212 : decode cX5_odds 212 = .ok (.lstore 9, 2) := by decide +kernel
theorem dX5_odds_214 : decode cX5_odds 214 = .ok (.lload 13, 2) := by decide +kernel
theorem dX5_odds_216 : decode cX5_odds 216 = .ok (.lstore 11, 2) := by decide +kernel
theorem dX5_odds_218 : decode cX5_odds 218 = .ok (.goto (-22), 3) := by decide +kernel
theorem dX5_odds_221 : decode cX5_odds 221 = .ok (.iload_n 3, 1) := by decide +kernel
theorem dX5_odds_222 : decode cX5_odds 222 = .ok (.ifCond .ne 11, 3) := by decide +kernel
theorem dX5_odds_225 : decode cX5_odds 225 = .ok (.lload 5, 2) := by decide +kernel
theorem dX5_odds_227 : decode cX5_odds 227 = .ok (.lload 9, 2) := by decide +kernel
theorem dX5_odds_229 : decode cX5_odds 229 = .ok (.ldiv, 1) := by decide +kernel
theorem dX5_odds_230 : decode cX5_odds 230 = .ok (.goto 8, 3) := by decide +kernel
theorem dX5_odds_233 : decode cX5_odds 233 = .ok (.lload 7, 2) := by decide +kernel
theorem dX5_odds_235 : decode cX5_odds 235 = .ok (.lload 9, 2) := by decide +kernel
theorem dX5_odds_237 : decode cX5_odds 237 = .ok (.ldiv, 1) := by decide +kernel
theorem dX5_odds_238 : decode cX5_odds 238 = .ok (.lreturn, 1) := by decide +kernel
theorem dX5_saw_0 : decode cX5_saw 0 = .ok (.aload_n 0, 1) := by decide +kernel
theorem dX5_saw_1 : decode cX5_saw 1 = .ok (.iload_n 1, 1) := by decide +kernel
theorem dX5_saw_2 : decode cX5_saw 2 = .ok (.invokevirtual 107, 3) := by decide +kernel
theorem dX5_saw_5 : decode cX5_saw 5 = .ok (.ifCond .eq 11, 3) := by decide +kernel
theorem dX5_saw_8 : decode cX5_saw 8 = .ok (.aload_n 0, 1) := by decide +kernel
theorem dX5_saw_9 : decode cX5_saw 9 = .ok (.iload_n 2, 1) := by decide +kernel
theorem dX5_saw_10 : decode cX5_saw 10 = .ok (.invokevirtual 104, 3) := by decide +kernel
theorem dX5_saw_13 : decode cX5_saw 13 = .ok (.ifCond .ne 5, 3) := by decide +kernel
theorem dX5_saw_16 : decode cX5_saw 16 = .ok (.iconst (-1), 1) := by decide +kernel
theorem dX5_saw_17 : decode cX5_saw 17 = .ok (.ireturn, 1) := by decide +kernel
theorem dX5_saw_18 : decode cX5_saw 18 = .ok (.aload_n 0, 1) := by decide +kernel
theorem dX5_saw_19 : decode cX5_saw 19 = .ok (.getfield 101, 3) := by decide +kernel
theorem dX5_saw_22 : decode cX5_saw 22 = .ok (.bipush 6, 2) := by decide +kernel
theorem dX5_saw_24 : decode cX5_saw 24 = .ok (.if_icmp .ne 6, 3) := by decide +kernel
theorem dX5_saw_27 : decode cX5_saw 27 = .ok (.bipush (-3), 2) := by decide +kernel
theorem dX5_saw_29 : decode cX5_saw 29 = .ok (.ireturn, 1) := by decide +kernel
theorem dX5_saw_30 : decode cX5_saw 30 = .ok (.aload_n 0, 1) := by decide +kernel
theorem dX5_saw_31 : decode cX5_saw 31 = .ok (.getfield 45, 3) := by decide +kernel
theorem dX5_saw_34 : decode cX5_saw 34 = .ok (.aload_n 0, 1) := by decide +kernel
theorem dX5_saw_35 : decode cX5_saw 35 = .ok (.getfield 101, 3) := by decide +kernel
theorem dX5_saw_38 : decode cX5_saw 38 = .ok (.iload_n 1, 1) := by decide +kernel
theorem dX5_saw_39 : decode cX5_saw 39 = .ok (.iastore, 1) := by decide +kernel
theorem dX5_saw_40 : decode cX5_saw 40 = .ok (.aload_n 0, 1) := by decide +kernel
theorem dX5_saw_41 : decode cX5_saw 41 = .ok (.getfield 48, 3) := by decide +kernel
theorem dX5_saw_44 : decode cX5_saw 44 = .ok (.aload_n 0, 1) := by decide +kernel
theorem dX5_saw_45 : decode cX5_saw 45 = .ok (.getfield 101, 3) := by decide +kernel
theorem dX5_saw_48 : decode cX5_saw 48 = .ok (.iload_n 2, 1) := by decide +kernel
theorem dX5_saw_49 : decode cX5_saw 49 = .ok (.iastore, 1) := by decide +kernel
theorem dX5_saw_50 : decode cX5_saw 50 = .ok (.aload_n 0, 1) := by decide +kernel
theorem dX5_saw_51 : decode cX5_saw 51 = .ok (.dup, 1) := by decide +kernel
theorem dX5_saw_52 : decode cX5_saw 52 = .ok (.getfield 101, 3) := by decide +kernel
theorem dX5_saw_55 : decode cX5_saw 55 = .ok (.iconst 1, 1) := by decide +kernel
theorem dX5_saw_56 : decode cX5_saw 56 = .ok (.iadd, 1) := by decide +kernel
theorem dX5_saw_57 : decode cX5_saw 57 = .ok (.putfield 101, 3) := by decide +kernel
theorem dX5_saw_60 : decode cX5_saw 60 = .ok (.aload_n 0, 1) := by decide +kernel
theorem dX5_saw_61 : decode cX5_saw 61 = .ok (.getfield 101, 3) := by decide +kernel
theorem dX5_saw_64 : decode cX5_saw 64 = .ok (.ireturn, 1) := by decide +kernel
theorem dX5_forget_0 : decode cX5_forget 0 = .ok (.aload_n 0, 1) := by decide +kernel
theorem dX5_forget_1 : decode cX5_forget 1 = .ok (.getfield 101, 3) := by decide +kernel
theorem dX5_forget_4 : decode cX5_forget 4 = .ok (.istore_n 1, 1) := by decide +kernel
theorem dX5_forget_5 : decode cX5_forget 5 = .ok (.aload_n 0, 1) := by decide +kernel
theorem dX5_forget_6 : decode cX5_forget 6 = .ok (.iconst 0, 1) := by decide +kernel
theorem dX5_forget_7 : decode cX5_forget 7 = .ok (.putfield 101, 3) := by decide +kernel
theorem dX5_forget_10 : decode cX5_forget 10 = .ok (.iload_n 1, 1) := by decide +kernel
theorem dX5_forget_11 : decode cX5_forget 11 = .ok (.ireturn, 1) := by decide +kernel
theorem dX5_sizes_0 : decode cX5_sizes 0 = .ok (.iconst 0, 1) := by decide +kernel
theorem dX5_sizes_1 : decode cX5_sizes 1 = .ok (.istore_n 1, 1) := by decide +kernel
theorem dX5_sizes_2 : decode cX5_sizes 2 = .ok (.aload_n 0, 1) := by decide +kernel
theorem dX5_sizes_3 : decode cX5_sizes 3 = .ok (.getfield 26, 3) := by decide +kernel
theorem dX5_sizes_6 : decode cX5_sizes 6 = .ok (.iconst 0, 1) := by decide +kernel
theorem dX5_sizes_7 : decode cX5_sizes 7 = .ok (.iaload, 1) := by decide +kernel
theorem dX5_sizes_8 : decode cX5_sizes 8 = .ok (.istore_n 2, 1) := by decide +kernel
theorem dX5_sizes_9 : decode cX5_sizes 9 = .ok (.iload_n 2, 1) := by decide +kernel
theorem dX5_sizes_10 : decode cX5_sizes 10 = .ok (.iconst 5, 1) := by decide +kernel
theorem dX5_sizes_11 : decode cX5_sizes 11 = .ok (.if_icmp .gt 83, 3) := by decide +kernel
theorem dX5_sizes_14 : decode cX5_sizes 14 = .ok (.aload_n 0, 1) := by decide +kernel
theorem dX5_sizes_15 : decode cX5_sizes 15 = .ok (.iload_n 2, 1) := by decide +kernel
theorem dX5_sizes_16 : decode cX5_sizes 16 = .ok (.aload_n 0, 1) := by decide +kernel
theorem dX5_sizes_17 : decode cX5_sizes 17 = .ok (.invokevirtual 161, 3) := by decide +kernel
theorem dX5_sizes_20 : decode cX5_sizes 20 = .ok (.invokevirtual 170, 3) := by decide +kernel
theorem dX5_sizes_23 : decode cX5_sizes 23 = .ok (.istore_n 3, 1) := by decide +kernel
theorem dX5_sizes_24 : decode cX5_sizes 24 = .ok (.iconst 0, 1) := by decide +kernel
theorem dX5_sizes_25 : decode cX5_sizes 25 = .ok (.istore 4, 2) := by decide +kernel
theorem dX5_sizes_27 : decode cX5_sizes 27 = .ok (.iload 4, 2) := by decide +kernel
theorem dX5_sizes_29 : decode cX5_sizes 29 = .ok (.aload_n 0, 1) := by decide +kernel
theorem dX5_sizes_30 : decode cX5_sizes 30 = .ok (.getfield 101, 3) := by decide +kernel
theorem dX5_sizes_33 : decode cX5_sizes 33 = .ok (.if_icmp .ge 41, 3) := by decide +kernel
theorem dX5_sizes_36 : decode cX5_sizes 36 = .ok (.iload_n 3, 1) := by decide +kernel
theorem dX5_sizes_37 : decode cX5_sizes 37 = .ok (.ifCond .eq 37, 3) := by decide +kernel
theorem dX5_sizes_40 : decode cX5_sizes 40 = .ok (.aload_n 0, 1) := by decide +kernel
theorem dX5_sizes_41 : decode cX5_sizes 41 = .ok (.getfield 39, 3) := by decide +kernel
theorem dX5_sizes_44 : decode cX5_sizes 44 = .ok (.aload_n 0, 1) := by decide +kernel
theorem dX5_sizes_45 : decode cX5_sizes 45 = .ok (.getfield 45, 3) := by decide +kernel
theorem dX5_sizes_48 : decode cX5_sizes 48 = .ok (.iload 4, 2) := by decide +kernel
theorem dX5_sizes_50 : decode cX5_sizes 50 = .ok (.iaload, 1) := by decide +kernel
theorem dX5_sizes_51 : decode cX5_sizes 51 = .ok (.iaload, 1) := by decide +kernel
theorem dX5_sizes_52 : decode cX5_sizes 52 = .ok (.aload_n 0, 1) := by decide +kernel
theorem dX5_sizes_53 : decode cX5_sizes 53 = .ok (.getfield 48, 3) := by decide +kernel
theorem dX5_sizes_56 : decode cX5_sizes 56 = .ok (.iload 4, 2) := by decide +kernel
theorem dX5_sizes_58 : decode cX5_sizes 58 = .ok (.iaload, 1) := by decide +kernel
theorem dX5_sizes_59 : decode cX5_sizes 59 = .ok (.if_icmp .ne 7, 3) := by decide +kernel
theorem dX5_sizes_62 : decode cX5_sizes 62 = .ok (.iconst 1, 1) := by decide +kernel
theorem dX5_sizes_63 : decode cX5_sizes 63 = .ok (.goto 4, 3) := by decide +kernel
theorem dX5_sizes_66 : decode cX5_sizes 66 = .ok (.iconst 0, 1) := by decide +kernel
theorem dX5_sizes_67 : decode cX5_sizes 67 = .ok (.istore_n 3, 1) := by decide +kernel
theorem dX5_sizes_68 : decode cX5_sizes 68 = .ok (.iinc 4 1, 3) := by decide +kernel
theorem dX5_sizes_71 : decode cX5_sizes 71 = .ok (.goto (-44), 3) := by decide +kernel
theorem dX5_sizes_74 : decode cX5_sizes 74 = .ok (.iload_n 1, 1) := by decide +kernel
theorem dX5_sizes_75 : decode cX5_sizes 75 = .ok (.iload_n 3, 1) := by decide +kernel
theorem dX5_sizes_76 : decode cX5_sizes 76 = .ok (.ifCond .eq 9, 3) := by decide +kernel
theorem dX5_sizes_79 : decode cX5_sizes 79 = .ok (.iconst 1, 1) := by decide +kernel
theorem dX5_sizes_80 : decode cX5_sizes 80 = .ok (.iload_n 2, 1) := by decide +kernel
theorem dX5_sizes_81 : decode cX5_sizes 81 = .ok (.ishl, 1) := by decide +kernel
theorem dX5_sizes_82 : decode cX5_sizes 82 = .ok (.goto 4, 3) := by decide +kernel
theorem dX5_sizes_85 : decode cX5_sizes 85 = .ok (.iconst 0, 1) := by decide +kernel
theorem dX5_sizes_86 : decode cX5_sizes 86 = .ok (.ior, 1) := by decide +kernel
theorem dX5_sizes_87 : decode cX5_sizes 87 = .ok (.istore_n 1, 1) := by decide +kernel
theorem dX5_sizes_88 : decode cX5_sizes 88 = .ok (.iinc 2 1, 3) := by decide +kernel
theorem dX5_sizes_91 : decode cX5_sizes 91 = .ok (.goto (-82), 3) := by decide +kernel
theorem dX5_sizes_94 : decode cX5_sizes 94 = .ok (.iload_n 1, 1) := by decide +kernel
theorem dX5_sizes_95 : decode cX5_sizes 95 = .ok (.ireturn, 1) := by decide +kernel
theorem dX5_two_0 : decode cX5_two 0 = .ok (.iload_n 1, 1) := by decide +kernel
theorem dX5_two_1 : decode cX5_two 1 = .ok (.iconst 0, 1) := by decide +kernel
theorem dX5_two_2 : decode cX5_two 2 = .ok (.aload_n 0, 1) := by decide +kernel
theorem dX5_two_3 : decode cX5_two 3 = .ok (.getfield 20, 3) := by decide +kernel
theorem dX5_two_6 : decode cX5_two 6 = .ok (.iconst 0, 1) := by decide +kernel
theorem dX5_two_7 : decode cX5_two 7 = .ok (.iaload, 1) := by decide +kernel
theorem dX5_two_8 : decode cX5_two 8 = .ok (.invokestatic 51, 3) := by decide +kernel
theorem dX5_two_11 : decode cX5_two 11 = .ok (.ifCond .ne 5, 3) := by decide +kernel
theorem dX5_two_14 : decode cX5_two 14 = .ok (.iconst (-1), 1) := by decide +kernel
theorem dX5_two_15 : decode cX5_two 15 = .ok (.ireturn, 1) := by decide +kernel
theorem dX5_two_16 : decode cX5_two 16 = .ok (.iconst 1, 1) := by decide +kernel
theorem dX5_two_17 : decode cX5_two 17 = .ok (.iload_n 1, 1) := by decide +kernel
theorem dX5_two_18 : decode cX5_two 18 = .ok (.ishl, 1) := by decide +kernel
theorem dX5_two_19 : decode cX5_two 19 = .ok (.iconst 1, 1) := by decide +kernel
theorem dX5_two_20 : decode cX5_two 20 = .ok (.isub, 1) := by decide +kernel
theorem dX5_two_21 : decode cX5_two 21 = .ok (.istore_n 2, 1) := by decide +kernel
theorem dX5_two_22 : decode cX5_two 22 = .ok (.iconst 0, 1) := by decide +kernel
theorem dX5_two_23 : decode cX5_two 23 = .ok (.istore_n 3, 1) := by decide +kernel
theorem dX5_two_24 : decode cX5_two 24 = .ok (.iload_n 1, 1) := by decide +kernel
theorem dX5_two_25 : decode cX5_two 25 = .ok (.istore 4, 2) := by decide +kernel
theorem dX5_two_27 : decode cX5_two 27 = .ok (.iload 4, 2) := by decide +kernel
theorem dX5_two_29 : decode cX5_two 29 = .ok (.aload_n 0, 1) := by decide +kernel
theorem dX5_two_30 : decode cX5_two 30 = .ok (.getfield 20, 3) := by decide +kernel
theorem dX5_two_33 : decode cX5_two 33 = .ok (.iconst 0, 1) := by decide +kernel
theorem dX5_two_34 : decode cX5_two 34 = .ok (.iaload, 1) := by decide +kernel
theorem dX5_two_35 : decode cX5_two 35 = .ok (.if_icmp .ge 27, 3) := by decide +kernel
theorem dX5_two_38 : decode cX5_two 38 = .ok (.iload_n 3, 1) := by decide +kernel
theorem dX5_two_39 : decode cX5_two 39 = .ok (.aload_n 0, 1) := by decide +kernel
theorem dX5_two_40 : decode cX5_two 40 = .ok (.iload 4, 2) := by decide +kernel
theorem dX5_two_42 : decode cX5_two 42 = .ok (.iload_n 2, 1) := by decide +kernel
theorem dX5_two_43 : decode cX5_two 43 = .ok (.invokevirtual 130, 3) := by decide +kernel
theorem dX5_two_46 : decode cX5_two 46 = .ok (.ifCond .eq 7, 3) := by decide +kernel
theorem dX5_two_49 : decode cX5_two 49 = .ok (.iconst 0, 1) := by decide +kernel
theorem dX5_two_50 : decode cX5_two 50 = .ok (.goto 4, 3) := by decide +kernel
theorem dX5_two_53 : decode cX5_two 53 = .ok (.iconst 1, 1) := by decide +kernel
theorem dX5_two_54 : decode cX5_two 54 = .ok (.iadd, 1) := by decide +kernel
theorem dX5_two_55 : decode cX5_two 55 = .ok (.istore_n 3, 1) := by decide +kernel
theorem dX5_two_56 : decode cX5_two 56 = .ok (.iinc 4 1, 3) := by decide +kernel
theorem dX5_two_59 : decode cX5_two 59 = .ok (.goto (-32), 3) := by decide +kernel
theorem dX5_two_62 : decode cX5_two 62 = .ok (.iload_n 3, 1) := by decide +kernel
theorem dX5_two_63 : decode cX5_two 63 = .ok (.ireturn, 1) := by decide +kernel
theorem dX5_mark_0 : decode cX5_mark 0 = .ok (.iload_n 1, 1) := by decide +kernel
theorem dX5_mark_1 : decode cX5_mark 1 = .ok (.iconst 0, 1) := by decide +kernel
theorem dX5_mark_2 : decode cX5_mark 2 = .ok (.iconst 5, 1) := by decide +kernel
theorem dX5_mark_3 : decode cX5_mark 3 = .ok (.invokestatic 51, 3) := by decide +kernel
theorem dX5_mark_6 : decode cX5_mark 6 = .ok (.ifCond .eq 11, 3) := by decide +kernel
theorem dX5_mark_9 : decode cX5_mark 9 = .ok (.aload_n 0, 1) := by decide +kernel
theorem dX5_mark_10 : decode cX5_mark 10 = .ok (.iload_n 2, 1) := by decide +kernel
theorem dX5_mark_11 : decode cX5_mark 11 = .ok (.invokevirtual 107, 3) := by decide +kernel
theorem dX5_mark_14 : decode cX5_mark 14 = .ok (.ifCond .ne 6, 3) := by decide +kernel
theorem dX5_mark_17 : decode cX5_mark 17 = .ok (.ldc 186, 2) := by decide +kernel
theorem dX5_mark_19 : decode cX5_mark 19 = .ok (.ireturn, 1) := by decide +kernel
theorem dX5_mark_20 : decode cX5_mark 20 = .ok (.aload_n 0, 1) := by decide +kernel
theorem dX5_mark_21 : decode cX5_mark 21 = .ok (.iload_n 2, 1) := by decide +kernel
theorem dX5_mark_22 : decode cX5_mark 22 = .ok (.iconst 0, 1) := by decide +kernel
theorem dX5_mark_23 : decode cX5_mark 23 = .ok (.invokevirtual 110, 3) := by decide +kernel
theorem dX5_mark_26 : decode cX5_mark 26 = .ok (.istore_n 3, 1) := by decide +kernel
theorem dX5_mark_27 : decode cX5_mark 27 = .ok (.iload_n 1, 1) := by decide +kernel
theorem dX5_mark_28 : decode cX5_mark 28 = .ok (.tableswitch 141 0 4 #[36, 48, 69, 90, 113], 36) := by decide +kernel
theorem dX5_mark_64 : decode cX5_mark 64 = .ok (.aload_n 0, 1) := by decide +kernel
theorem dX5_mark_65 : decode cX5_mark 65 = .ok (.dup, 1) := by decide +kernel
theorem dX5_mark_66 : decode cX5_mark 66 = .ok (.getfield 187, 3) := by decide +kernel
theorem dX5_mark_69 : decode cX5_mark 69 = .ok (.lconst 1, 1) := by decide +kernel
theorem dX5_mark_70 : decode cX5_mark 70 = .ok (.ladd, 1) := by decide +kernel
theorem dX5_mark_71 : decode cX5_mark 71 = .ok (.putfield 187, 3) := by decide +kernel
theorem dX5_mark_74 : decode cX5_mark 74 = .ok (.iload_n 3, 1) := by decide +kernel
theorem dX5_mark_75 : decode cX5_mark 75 = .ok (.ireturn, 1) := by decide +kernel
theorem dX5_mark_76 : decode cX5_mark 76 = .ok (.aload_n 0, 1) := by decide +kernel
theorem dX5_mark_77 : decode cX5_mark 77 = .ok (.dup, 1) := by decide +kernel
theorem dX5_mark_78 : decode cX5_mark 78 = .ok (.getfield 187, 3) := by decide +kernel
theorem dX5_mark_81 : decode cX5_mark 81 = .ok (.ldc2_w 191, 3) := by decide +kernel
theorem dX5_mark_84 : decode cX5_mark 84 = .ok (.ladd, 1) := by decide +kernel
theorem dX5_mark_85 : decode cX5_mark 85 = .ok (.putfield 187, 3) := by decide +kernel
theorem dX5_mark_88 : decode cX5_mark 88 = .ok (.iload_n 3, 1) := by decide +kernel
theorem dX5_mark_89 : decode cX5_mark 89 = .ok (.aload_n 0, 1) := by decide +kernel
theorem dX5_mark_90 : decode cX5_mark 90 = .ok (.iload_n 2, 1) := by decide +kernel
theorem dX5_mark_91 : decode cX5_mark 91 = .ok (.iconst 1, 1) := by decide +kernel
theorem dX5_mark_92 : decode cX5_mark 92 = .ok (.invokevirtual 110, 3) := by decide +kernel
theorem dX5_mark_95 : decode cX5_mark 95 = .ok (.iadd, 1) := by decide +kernel
theorem dX5_mark_96 : decode cX5_mark 96 = .ok (.ireturn, 1) := by decide +kernel
theorem dX5_mark_97 : decode cX5_mark 97 = .ok (.aload_n 0, 1) := by decide +kernel
theorem dX5_mark_98 : decode cX5_mark 98 = .ok (.dup, 1) := by decide +kernel
theorem dX5_mark_99 : decode cX5_mark 99 = .ok (.getfield 187, 3) := by decide +kernel
theorem dX5_mark_102 : decode cX5_mark 102 = .ok (.ldc2_w 193, 3) := by decide +kernel
theorem dX5_mark_105 : decode cX5_mark 105 = .ok (.ladd, 1) := by decide +kernel
theorem dX5_mark_106 : decode cX5_mark 106 = .ok (.putfield 187, 3) := by decide +kernel
theorem dX5_mark_109 : decode cX5_mark 109 = .ok (.iload_n 3, 1) := by decide +kernel
theorem dX5_mark_110 : decode cX5_mark 110 = .ok (.aload_n 0, 1) := by decide +kernel
theorem dX5_mark_111 : decode cX5_mark 111 = .ok (.iload_n 2, 1) := by decide +kernel
theorem dX5_mark_112 : decode cX5_mark 112 = .ok (.iconst 4, 1) := by decide +kernel
theorem dX5_mark_113 : decode cX5_mark 113 = .ok (.invokevirtual 110, 3) := by decide +kernel
theorem dX5_mark_116 : decode cX5_mark 116 = .ok (.isub, 1) := by decide +kernel
theorem dX5_mark_117 : decode cX5_mark 117 = .ok (.ireturn, 1) := by decide +kernel
theorem dX5_mark_118 : decode cX5_mark 118 = .ok (.aload_n 0, 1) := by decide +kernel
theorem dX5_mark_119 : decode cX5_mark 119 = .ok (.dup, 1) := by decide +kernel
theorem dX5_mark_120 : decode cX5_mark 120 = .ok (.getfield 187, 3) := by decide +kernel
theorem dX5_mark_123 : decode cX5_mark 123 = .ok (.ldc2_w 195, 3) := by decide +kernel
theorem dX5_mark_126 : decode cX5_mark 126 = .ok (.ladd, 1) := by decide +kernel
theorem dX5_mark_127 : decode cX5_mark 127 = .ok (.putfield 187, 3) := by decide +kernel
theorem dX5_mark_130 : decode cX5_mark 130 = .ok (.iconst 2, 1) := by decide +kernel
theorem dX5_mark_131 : decode cX5_mark 131 = .ok (.iload_n 3, 1) := by decide +kernel
theorem dX5_mark_132 : decode cX5_mark 132 = .ok (.aload_n 0, 1) := by decide +kernel
theorem dX5_mark_133 : decode cX5_mark 133 = .ok (.iload_n 2, 1) := by decide +kernel
theorem dX5_mark_134 : decode cX5_mark 134 = .ok (.iconst 1, 1) := by decide +kernel
theorem dX5_mark_135 : decode cX5_mark 135 = .ok (.invokevirtual 110, 3) := by decide +kernel
theorem dX5_mark_138 : decode cX5_mark 138 = .ok (.iadd, 1) := by decide +kernel
theorem dX5_mark_139 : decode cX5_mark 139 = .ok (.imul, 1) := by decide +kernel
theorem dX5_mark_140 : decode cX5_mark 140 = .ok (.ireturn, 1) := by decide +kernel
theorem dX5_mark_141 : decode cX5_mark 141 = .ok (.aload_n 0, 1) := by decide +kernel
theorem dX5_mark_142 : decode cX5_mark 142 = .ok (.dup, 1) := by decide +kernel
theorem dX5_mark_143 : decode cX5_mark 143 = .ok (.getfield 187, 3) := by decide +kernel
theorem dX5_mark_146 : decode cX5_mark 146 = .ok (.ldc2_w 197, 3) := by decide +kernel
theorem dX5_mark_149 : decode cX5_mark 149 = .ok (.ladd, 1) := by decide +kernel
theorem dX5_mark_150 : decode cX5_mark 150 = .ok (.putfield 187, 3) := by decide +kernel
theorem dX5_mark_153 : decode cX5_mark 153 = .ok (.iload_n 3, 1) := by decide +kernel
theorem dX5_mark_154 : decode cX5_mark 154 = .ok (.aload_n 0, 1) := by decide +kernel
theorem dX5_mark_155 : decode cX5_mark 155 = .ok (.iload_n 2, 1) := by decide +kernel
theorem dX5_mark_156 : decode cX5_mark 156 = .ok (.iconst 4, 1) := by decide +kernel
theorem dX5_mark_157 : decode cX5_mark 157 = .ok (.invokevirtual 110, 3) := by decide +kernel
theorem dX5_mark_160 : decode cX5_mark 160 = .ok (.isub, 1) := by decide +kernel
theorem dX5_mark_161 : decode cX5_mark 161 = .ok (.aload_n 0, 1) := by decide +kernel
theorem dX5_mark_162 : decode cX5_mark 162 = .ok (.getfield 29, 3) := by decide +kernel
theorem dX5_mark_165 : decode cX5_mark 165 = .ok (.iconst 1, 1) := by decide +kernel
theorem dX5_mark_166 : decode cX5_mark 166 = .ok (.iaload, 1) := by decide +kernel
theorem dX5_mark_167 : decode cX5_mark 167 = .ok (.iadd, 1) := by decide +kernel
theorem dX5_mark_168 : decode cX5_mark 168 = .ok (.ireturn, 1) := by decide +kernel
theorem dX5_mark_169 : decode cX5_mark 169 = .ok (.aload_n 0, 1) := by decide +kernel
theorem dX5_mark_170 : decode cX5_mark 170 = .ok (.dup, 1) := by decide +kernel
theorem dX5_mark_171 : decode cX5_mark 171 = .ok (.getfield 187, 3) := by decide +kernel
theorem dX5_mark_174 : decode cX5_mark 174 = .ok (.ldc2_w 199, 3) := by decide +kernel
theorem dX5_mark_177 : decode cX5_mark 177 = .ok (.ladd, 1) := by decide +kernel
theorem dX5_mark_178 : decode cX5_mark 178 = .ok (.putfield 187, 3) := by decide +kernel
theorem dX5_mark_181 : decode cX5_mark 181 = .ok (.iload_n 3, 1) := by decide +kernel
theorem dX5_mark_182 : decode cX5_mark 182 = .ok (.aload_n 0, 1) := by decide +kernel
theorem dX5_mark_183 : decode cX5_mark 183 = .ok (.getfield 29, 3) := by decide +kernel
theorem dX5_mark_186 : decode cX5_mark 186 = .ok (.iconst 3, 1) := by decide +kernel
theorem dX5_mark_187 : decode cX5_mark 187 = .ok (.iaload, 1) := by decide +kernel
theorem dX5_mark_188 : decode cX5_mark 188 = .ok (.iadd, 1) := by decide +kernel
theorem dX5_mark_189 : decode cX5_mark 189 = .ok (.ireturn, 1) := by decide +kernel
theorem dX5_copy_0 : decode cX5_copy 0 = .ok (.iconst 0, 1) := by decide +kernel
theorem dX5_copy_1 : decode cX5_copy 1 = .ok (.istore_n 3, 1) := by decide +kernel
theorem dX5_copy_2 : decode cX5_copy 2 = .ok (.iload_n 3, 1) := by decide +kernel
theorem dX5_copy_3 : decode cX5_copy 3 = .ok (.bipush 66, 2) := by decide +kernel
theorem dX5_copy_5 : decode cX5_copy 5 = .ok (.if_icmp .ge 25, 3) := by decide +kernel
theorem dX5_copy_8 : decode cX5_copy 8 = .ok (.aload_n 0, 1) := by decide +kernel
theorem dX5_copy_9 : decode cX5_copy 9 = .ok (.getfield 29, 3) := by decide +kernel
theorem dX5_copy_12 : decode cX5_copy 12 = .ok (.iload_n 2, 1) := by decide +kernel
theorem dX5_copy_13 : decode cX5_copy 13 = .ok (.iload_n 3, 1) := by decide +kernel
theorem dX5_copy_14 : decode cX5_copy 14 = .ok (.iadd, 1) := by decide +kernel
theorem dX5_copy_15 : decode cX5_copy 15 = .ok (.aload_n 0, 1) := by decide +kernel
theorem dX5_copy_16 : decode cX5_copy 16 = .ok (.getfield 29, 3) := by decide +kernel
theorem dX5_copy_19 : decode cX5_copy 19 = .ok (.iload_n 1, 1) := by decide +kernel
theorem dX5_copy_20 : decode cX5_copy 20 = .ok (.iload_n 3, 1) := by decide +kernel
theorem dX5_copy_21 : decode cX5_copy 21 = .ok (.iadd, 1) := by decide +kernel
theorem dX5_copy_22 : decode cX5_copy 22 = .ok (.iaload, 1) := by decide +kernel
theorem dX5_copy_23 : decode cX5_copy 23 = .ok (.iastore, 1) := by decide +kernel
theorem dX5_copy_24 : decode cX5_copy 24 = .ok (.iinc 3 1, 3) := by decide +kernel
theorem dX5_copy_27 : decode cX5_copy 27 = .ok (.goto (-25), 3) := by decide +kernel
theorem dX5_copy_30 : decode cX5_copy 30 = .ok (.return_, 1) := by decide +kernel
theorem dX5_keep_0 : decode cX5_keep 0 = .ok (.iload_n 1, 1) := by decide +kernel
theorem dX5_keep_1 : decode cX5_keep 1 = .ok (.iconst 0, 1) := by decide +kernel
theorem dX5_keep_2 : decode cX5_keep 2 = .ok (.iconst 1, 1) := by decide +kernel
theorem dX5_keep_3 : decode cX5_keep 3 = .ok (.invokestatic 51, 3) := by decide +kernel
theorem dX5_keep_6 : decode cX5_keep 6 = .ok (.ifCond .ne 5, 3) := by decide +kernel
theorem dX5_keep_9 : decode cX5_keep 9 = .ok (.iconst (-1), 1) := by decide +kernel
theorem dX5_keep_10 : decode cX5_keep 10 = .ok (.ireturn, 1) := by decide +kernel
theorem dX5_keep_11 : decode cX5_keep 11 = .ok (.aload_n 0, 1) := by decide +kernel
theorem dX5_keep_12 : decode cX5_keep 12 = .ok (.iconst 0, 1) := by decide +kernel
theorem dX5_keep_13 : decode cX5_keep 13 = .ok (.bipush 66, 2) := by decide +kernel
theorem dX5_keep_15 : decode cX5_keep 15 = .ok (.iconst 1, 1) := by decide +kernel
theorem dX5_keep_16 : decode cX5_keep 16 = .ok (.iload_n 1, 1) := by decide +kernel
theorem dX5_keep_17 : decode cX5_keep 17 = .ok (.iadd, 1) := by decide +kernel
theorem dX5_keep_18 : decode cX5_keep 18 = .ok (.imul, 1) := by decide +kernel
theorem dX5_keep_19 : decode cX5_keep 19 = .ok (.invokevirtual 201, 3) := by decide +kernel
theorem dX5_keep_22 : decode cX5_keep 22 = .ok (.aload_n 0, 1) := by decide +kernel
theorem dX5_keep_23 : decode cX5_keep 23 = .ok (.getfield 32, 3) := by decide +kernel
theorem dX5_keep_26 : decode cX5_keep 26 = .ok (.iload_n 1, 1) := by decide +kernel
theorem dX5_keep_27 : decode cX5_keep 27 = .ok (.iconst 1, 1) := by decide +kernel
theorem dX5_keep_28 : decode cX5_keep 28 = .ok (.bastore, 1) := by decide +kernel
theorem dX5_keep_29 : decode cX5_keep 29 = .ok (.aload_n 0, 1) := by decide +kernel
theorem dX5_keep_30 : decode cX5_keep 30 = .ok (.getfield 29, 3) := by decide +kernel
theorem dX5_keep_33 : decode cX5_keep 33 = .ok (.iconst 0, 1) := by decide +kernel
theorem dX5_keep_34 : decode cX5_keep 34 = .ok (.iaload, 1) := by decide +kernel
theorem dX5_keep_35 : decode cX5_keep 35 = .ok (.ireturn, 1) := by decide +kernel
theorem dX5_back_0 : decode cX5_back 0 = .ok (.iload_n 1, 1) := by decide +kernel
theorem dX5_back_1 : decode cX5_back 1 = .ok (.iconst 0, 1) := by decide +kernel
theorem dX5_back_2 : decode cX5_back 2 = .ok (.iconst 1, 1) := by decide +kernel
theorem dX5_back_3 : decode cX5_back 3 = .ok (.invokestatic 51, 3) := by decide +kernel
theorem dX5_back_6 : decode cX5_back 6 = .ok (.ifCond .ne 5, 3) := by decide +kernel
theorem dX5_back_9 : decode cX5_back 9 = .ok (.iconst (-1), 1) := by decide +kernel
theorem dX5_back_10 : decode cX5_back 10 = .ok (.ireturn, 1) := by decide +kernel
theorem dX5_back_11 : decode cX5_back 11 = .ok (.aload_n 0, 1) := by decide +kernel
theorem dX5_back_12 : decode cX5_back 12 = .ok (.getfield 32, 3) := by decide +kernel
theorem dX5_back_15 : decode cX5_back 15 = .ok (.iload_n 1, 1) := by decide +kernel
theorem dX5_back_16 : decode cX5_back 16 = .ok (.baload, 1) := by decide +kernel
theorem dX5_back_17 : decode cX5_back 17 = .ok (.ifCond .ne 6, 3) := by decide +kernel
theorem dX5_back_20 : decode cX5_back 20 = .ok (.bipush (-2), 2) := by decide +kernel
theorem dX5_back_22 : decode cX5_back 22 = .ok (.ireturn, 1) := by decide +kernel
theorem dX5_back_23 : decode cX5_back 23 = .ok (.aload_n 0, 1) := by decide +kernel
theorem dX5_back_24 : decode cX5_back 24 = .ok (.bipush 66, 2) := by decide +kernel
theorem dX5_back_26 : decode cX5_back 26 = .ok (.iconst 1, 1) := by decide +kernel
theorem dX5_back_27 : decode cX5_back 27 = .ok (.iload_n 1, 1) := by decide +kernel
theorem dX5_back_28 : decode cX5_back 28 = .ok (.iadd, 1) := by decide +kernel
theorem dX5_back_29 : decode cX5_back 29 = .ok (.imul, 1) := by decide +kernel
theorem dX5_back_30 : decode cX5_back 30 = .ok (.iconst 0, 1) := by decide +kernel
theorem dX5_back_31 : decode cX5_back 31 = .ok (.invokevirtual 201, 3) := by decide +kernel
theorem dX5_back_34 : decode cX5_back 34 = .ok (.aload_n 0, 1) := by decide +kernel
theorem dX5_back_35 : decode cX5_back 35 = .ok (.getfield 29, 3) := by decide +kernel
theorem dX5_back_38 : decode cX5_back 38 = .ok (.iconst 0, 1) := by decide +kernel
theorem dX5_back_39 : decode cX5_back 39 = .ok (.iaload, 1) := by decide +kernel
theorem dX5_back_40 : decode cX5_back 40 = .ok (.ireturn, 1) := by decide +kernel
theorem dX5_count_0 : decode cX5_count 0 = .ok (.iload_n 1, 1) := by decide +kernel
theorem dX5_count_1 : decode cX5_count 1 = .ok (.tableswitch 77 0 5 #[39, 46, 53, 60, 65, 72], 39) := by decide +kernel
theorem dX5_count_40 : decode cX5_count 40 = .ok (.aload_n 0, 1) := by decide +kernel
theorem dX5_count_41 : decode cX5_count 41 = .ok (.getfield 13, 3) := by decide +kernel
theorem dX5_count_44 : decode cX5_count 44 = .ok (.iconst 0, 1) := by decide +kernel
theorem dX5_count_45 : decode cX5_count 45 = .ok (.iaload, 1) := by decide +kernel
theorem dX5_count_46 : decode cX5_count 46 = .ok (.ireturn, 1) := by decide +kernel
theorem dX5_count_47 : decode cX5_count 47 = .ok (.aload_n 0, 1) := by decide +kernel
theorem dX5_count_48 : decode cX5_count 48 = .ok (.getfield 20, 3) := by decide +kernel
theorem dX5_count_51 : decode cX5_count 51 = .ok (.iconst 0, 1) := by decide +kernel
theorem dX5_count_52 : decode cX5_count 52 = .ok (.iaload, 1) := by decide +kernel
theorem dX5_count_53 : decode cX5_count 53 = .ok (.ireturn, 1) := by decide +kernel
theorem dX5_count_54 : decode cX5_count 54 = .ok (.aload_n 0, 1) := by decide +kernel
theorem dX5_count_55 : decode cX5_count 55 = .ok (.getfield 26, 3) := by decide +kernel
theorem dX5_count_58 : decode cX5_count 58 = .ok (.iconst 0, 1) := by decide +kernel
theorem dX5_count_59 : decode cX5_count 59 = .ok (.iaload, 1) := by decide +kernel
theorem dX5_count_60 : decode cX5_count 60 = .ok (.ireturn, 1) := by decide +kernel
theorem dX5_count_61 : decode cX5_count 61 = .ok (.aload_n 0, 1) := by decide +kernel
theorem dX5_count_62 : decode cX5_count 62 = .ok (.getfield 101, 3) := by decide +kernel
theorem dX5_count_65 : decode cX5_count 65 = .ok (.ireturn, 1) := by decide +kernel
theorem dX5_count_66 : decode cX5_count 66 = .ok (.aload_n 0, 1) := by decide +kernel
theorem dX5_count_67 : decode cX5_count 67 = .ok (.getfield 29, 3) := by decide +kernel
theorem dX5_count_70 : decode cX5_count 70 = .ok (.iconst 5, 1) := by decide +kernel
theorem dX5_count_71 : decode cX5_count 71 = .ok (.iaload, 1) := by decide +kernel
theorem dX5_count_72 : decode cX5_count 72 = .ok (.ireturn, 1) := by decide +kernel
theorem dX5_count_73 : decode cX5_count 73 = .ok (.aload_n 0, 1) := by decide +kernel
theorem dX5_count_74 : decode cX5_count 74 = .ok (.getfield 55, 3) := by decide +kernel
theorem dX5_count_77 : decode cX5_count 77 = .ok (.ireturn, 1) := by decide +kernel
theorem dX5_count_78 : decode cX5_count 78 = .ok (.iconst (-1), 1) := by decide +kernel
theorem dX5_count_79 : decode cX5_count 79 = .ok (.ireturn, 1) := by decide +kernel
theorem dX5_trace_0 : decode cX5_trace 0 = .ok (.aload_n 0, 1) := by decide +kernel
theorem dX5_trace_1 : decode cX5_trace 1 = .ok (.getfield 187, 3) := by decide +kernel
theorem dX5_trace_4 : decode cX5_trace 4 = .ok (.lreturn, 1) := by decide +kernel
