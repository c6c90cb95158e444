theorem dX7_init_0 : decode cX7_init 0 = .ok (.aload_n 0, 1) := by decide +kernel
theorem dX7_init_1 : decode cX7_init 1 = .ok (.invokespecial 1, 3) := by decide +kernel
theorem dX7_init_4 : decode cX7_init 4 = .ok (.aload_n 0, 1) := by decide +kernel
theorem dX7_init_5 : decode cX7_init 5 = .ok (.sipush 200, 3) := by decide +kernel
theorem dX7_init_8 : decode cX7_init 8 = .ok (.newarray .int, 2) := by decide +kernel
theorem dX7_init_10 : decode cX7_init 10 = .ok (.putfield 7, 3) := by decide +kernel
theorem dX7_init_13 : decode cX7_init 13 = .ok (.aload_n 0, 1) := by decide +kernel
theorem dX7_init_14 : decode cX7_init 14 = .ok (.bipush 12, 2) := by decide +kernel
theorem dX7_init_16 : decode cX7_init 16 = .ok (.newarray .int, 2) := by decide +kernel
theorem dX7_init_18 : decode cX7_init 18 = .ok (.putfield 13, 3) := by decide +kernel
theorem dX7_init_21 : decode cX7_init 21 = .ok (.aload_n 0, 1) := by decide +kernel
theorem dX7_init_22 : decode cX7_init 22 = .ok (.bipush 12, 2) := by decide +kernel
theorem dX7_init_24 : decode cX7_init 24 = .ok (.newarray .int, 2) := by decide +kernel
theorem dX7_init_26 : decode cX7_init 26 = .ok (.putfield 16, 3) := by decide +kernel
theorem dX7_init_29 : decode cX7_init 29 = .ok (.aload_n 0, 1) := by decide +kernel
theorem dX7_init_30 : decode cX7_init 30 = .ok (.bipush 6, 2) := by decide +kernel
theorem dX7_init_32 : decode cX7_init 32 = .ok (.newarray .int, 2) := by decide +kernel
theorem dX7_init_34 : decode cX7_init 34 = .ok (.putfield 19, 3) := by decide +kernel
theorem dX7_init_37 : decode cX7_init 37 = .ok (.aload_n 0, 1) := by decide +kernel
theorem dX7_init_38 : decode cX7_init 38 = .ok (.bipush 12, 2) := by decide +kernel
theorem dX7_init_40 : decode cX7_init 40 = .ok (.newarray .int, 2) := by decide +kernel
theorem dX7_init_42 : decode cX7_init 42 = .ok (.putfield 22, 3) := by decide +kernel
theorem dX7_init_45 : decode cX7_init 45 = .ok (.aload_n 0, 1) := by decide +kernel
theorem dX7_init_46 : decode cX7_init 46 = .ok (.bipush 12, 2) := by decide +kernel
theorem dX7_init_48 : decode cX7_init 48 = .ok (.newarray .int, 2) := by decide +kernel
theorem dX7_init_50 : decode cX7_init 50 = .ok (.putfield 25, 3) := by decide +kernel
theorem dX7_init_53 : decode cX7_init 53 = .ok (.aload_n 0, 1) := by decide +kernel
theorem dX7_init_54 : decode cX7_init 54 = .ok (.bipush 12, 2) := by decide +kernel
theorem dX7_init_56 : decode cX7_init 56 = .ok (.newarray .int, 2) := by decide +kernel
theorem dX7_init_58 : decode cX7_init 58 = .ok (.putfield 28, 3) := by decide +kernel
theorem dX7_init_61 : decode cX7_init 61 = .ok (.aload_n 0, 1) := by decide +kernel
theorem dX7_init_62 : decode cX7_init 62 = .ok (.bipush 21, 2) := by decide +kernel
theorem dX7_init_64 : decode cX7_init 64 = .ok (.newarray .int, 2) := by decide +kernel
theorem dX7_init_66 : decode cX7_init 66 = .ok (.putfield 31, 3) := by decide +kernel
theorem dX7_init_69 : decode cX7_init 69 = .ok (.aload_n 0, 1) := by decide +kernel
theorem dX7_init_70 : decode cX7_init 70 = .ok (.bipush 21, 2) := by decide +kernel
theorem dX7_init_72 : decode cX7_init 72 = .ok (.newarray .int, 2) := by decide +kernel
theorem dX7_init_74 : decode cX7_init 74 = .ok (.putfield 34, 3) := by decide +kernel
theorem dX7_init_77 : decode cX7_init 77 = .ok (.aload_n 0, 1) := by decide +kernel
theorem dX7_init_78 : decode cX7_init 78 = .ok (.bipush 42, 2) := by decide +kernel
theorem dX7_init_80 : decode cX7_init 80 = .ok (.newarray .int, 2) := by decide +kernel
theorem dX7_init_82 : decode cX7_init 82 = .ok (.putfield 37, 3) := by decide +kernel
theorem dX7_init_85 : decode cX7_init 85 = .ok (.aload_n 0, 1) := by decide +kernel
theorem dX7_init_86 : decode cX7_init 86 = .ok (.iconst 2, 1) := by decide +kernel
theorem dX7_init_87 : decode cX7_init 87 = .ok (.newarray .boolean, 2) := by decide +kernel
theorem dX7_init_89 : decode cX7_init 89 = .ok (.putfield 40, 3) := by decide +kernel
theorem dX7_init_92 : decode cX7_init 92 = .ok (.aload_n 0, 1) := by decide +kernel
theorem dX7_init_93 : decode cX7_init 93 = .ok (.sipush 210, 3) := by decide +kernel
theorem dX7_init_96 : decode cX7_init 96 = .ok (.newarray .int, 2) := by decide +kernel
theorem dX7_init_98 : decode cX7_init 98 = .ok (.putfield 44, 3) := by decide +kernel
theorem dX7_init_101 : decode cX7_init 101 = .ok (.aload_n 0, 1) := by decide +kernel
theorem dX7_init_102 : decode cX7_init 102 = .ok (.iconst 5, 1) := by decide +kernel
theorem dX7_init_103 : decode cX7_init 103 = .ok (.newarray .int, 2) := by decide +kernel
theorem dX7_init_105 : decode cX7_init 105 = .ok (.putfield 47, 3) := by decide +kernel
theorem dX7_init_108 : decode cX7_init 108 = .ok (.aload_n 0, 1) := by decide +kernel
theorem dX7_init_109 : decode cX7_init 109 = .ok (.iconst 5, 1) := by decide +kernel
theorem dX7_init_110 : decode cX7_init 110 = .ok (.newarray .int, 2) := by decide +kernel
theorem dX7_init_112 : decode cX7_init 112 = .ok (.putfield 50, 3) := by decide +kernel
theorem dX7_init_115 : decode cX7_init 115 = .ok (.aload_n 0, 1) := by decide +kernel
theorem dX7_init_116 : decode cX7_init 116 = .ok (.iconst 5, 1) := by decide +kernel
theorem dX7_init_117 : decode cX7_init 117 = .ok (.newarray .int, 2) := by decide +kernel
theorem dX7_init_119 : decode cX7_init 119 = .ok (.putfield 53, 3) := by decide +kernel
theorem dX7_init_122 : decode cX7_init 122 = .ok (.aload_n 0, 1) := by decide +kernel
theorem dX7_init_123 : decode cX7_init 123 = .ok (.iconst 4, 1) := by decide +kernel
theorem dX7_init_124 : decode cX7_init 124 = .ok (.newarray .int, 2) := by decide +kernel
theorem dX7_init_126 : decode cX7_init 126 = .ok (.putfield 56, 3) := by decide +kernel
theorem dX7_init_129 : decode cX7_init 129 = .ok (.aload_n 0, 1) := by decide +kernel
theorem dX7_init_130 : decode cX7_init 130 = .ok (.iconst 4, 1) := by decide +kernel
theorem dX7_init_131 : decode cX7_init 131 = .ok (.newarray .int, 2) := by decide +kernel
theorem dX7_init_133 : decode cX7_init 133 = .ok (.putfield 59, 3) := by decide +kernel
theorem dX7_init_136 : decode cX7_init 136 = .ok (.aload_n 0, 1) := by decide +kernel
theorem dX7_init_137 : decode cX7_init 137 = .ok (.invokevirtual 62, 3) := by decide +kernel
theorem dX7_init_140 : decode cX7_init 140 = .ok (.aload_n 0, 1) := by decide +kernel
theorem dX7_init_141 : decode cX7_init 141 = .ok (.invokevirtual 65, 3) := by decide +kernel
theorem dX7_init_144 : decode cX7_init 144 = .ok (.return_, 1) := by decide +kernel
theorem dX7_in_0 : decode cX7_in 0 = .ok (.iload_n 0, 1) := by decide +kernel
theorem dX7_in_1 : decode cX7_in 1 = .ok (.iload_n 1, 1) := by decide +kernel
theorem dX7_in_2 : decode cX7_in 2 = .ok (.if_icmp .lt 12, 3) := by decide +kernel
theorem dX7_in_5 : decode cX7_in 5 = .ok (.iload_n 0, 1) := by decide +kernel
theorem dX7_in_6 : decode cX7_in 6 = .ok (.iload_n 2, 1) := by decide +kernel
theorem dX7_in_7 : decode cX7_in 7 = .ok (.if_icmp .gt 7, 3) := by decide +kernel
theorem dX7_in_10 : decode cX7_in 10 = .ok (.iconst 1, 1) := by decide +kernel
theorem dX7_in_11 : decode cX7_in 11 = .ok (.goto 4, 3) := by decide +kernel
theorem dX7_in_14 : decode cX7_in 14 = .ok (.iconst 0, 1) := by decide +kernel
theorem dX7_in_15 : decode cX7_in 15 = .ok (.ireturn, 1) := by decide +kernel
theorem dX7_ones_0 : decode cX7_ones 0 = .ok (.iconst 0, 1) := by decide +kernel
theorem dX7_ones_1 : decode cX7_ones 1 = .ok (.istore_n 1, 1) := by decide +kernel
theorem dX7_ones_2 : decode cX7_ones 2 = .ok (.iconst 0, 1) := by decide +kernel
theorem dX7_ones_3 : decode cX7_ones 3 = .ok (.istore_n 2, 1) := by decide +kernel
theorem dX7_ones_4 : decode cX7_ones 4 = .ok (.iload_n 2, 1) := by decide +kernel
theorem dX7_ones_5 : decode cX7_ones 5 = .ok (.bipush 8, 2) := by decide +kernel
theorem dX7_ones_7 : decode cX7_ones 7 = .ok (.if_icmp .ge 17, 3) := by decide +kernel
theorem dX7_ones_10 : decode cX7_ones 10 = .ok (.iload_n 1, 1) := by decide +kernel
theorem dX7_ones_11 : decode cX7_ones 11 = .ok (.iload_n 0, 1) := by decide +kernel
theorem dX7_ones_12 : decode cX7_ones 12 = .ok (.iload_n 2, 1) := by decide +kernel
theorem dX7_ones_13 : decode cX7_ones 13 = .ok (.ishr, 1) := by decide +kernel
theorem dX7_ones_14 : decode cX7_ones 14 = .ok (.iconst 1, 1) := by decide +kernel
theorem dX7_ones_15 : decode cX7_ones 15 = .ok (.iand, 1) := by decide +kernel
theorem dX7_ones_16 : decode cX7_ones 16 = .ok (.iadd, 1) := by decide +kernel
theorem dX7_ones_17 : decode cX7_ones 17 = .ok (.istore_n 1, 1) := by decide +kernel
theorem dX7_ones_18 : decode cX7_ones 18 = .ok (.iinc 2 1, 3) := by decide +kernel
theorem dX7_ones_21 : decode cX7_ones 21 = .ok (.goto (-17), 3) := by decide +kernel
theorem dX7_ones_24 : decode cX7_ones 24 = .ok (.iload_n 1, 1) := by decide +kernel
theorem dX7_ones_25 : decode cX7_ones 25 = .ok (.ireturn, 1) := by decide +kernel
theorem dX7_type_0 : decode cX7_type 0 = .ok (.aload_n 0, 1) := by decide +kernel
theorem dX7_type_1 : decode cX7_type 1 = .ok (.iconst 0, 1) := by decide +kernel
theorem dX7_type_2 : decode cX7_type 2 = .ok (.putfield 68, 3) := by decide +kernel
theorem dX7_type_5 : decode cX7_type 5 = .ok (.iload_n 1, 1) := by decide +kernel
theorem dX7_type_6 : decode cX7_type 6 = .ok (.iconst 0, 1) := by decide +kernel
theorem dX7_type_7 : decode cX7_type 7 = .ok (.sipush 255, 3) := by decide +kernel
theorem dX7_type_10 : decode cX7_type 10 = .ok (.invokestatic 72, 3) := by decide +kernel
theorem dX7_type_13 : decode cX7_type 13 = .ok (.ifCond .ne 5, 3) := by decide +kernel
theorem dX7_type_16 : decode cX7_type 16 = .ok (.iconst (-1), 1) := by decide +kernel
theorem dX7_type_17 : decode cX7_type 17 = .ok (.ireturn, 1) := by decide +kernel
theorem dX7_type_18 : decode cX7_type 18 = .ok (.aload_n 0, 1) := by decide +kernel
theorem dX7_type_19 : decode cX7_type 19 = .ok (.getfield 76, 3) := by decide +kernel
theorem dX7_type_22 : decode cX7_type 22 = .ok (.sipush 200, 3) := by decide +kernel
theorem dX7_type_25 : decode cX7_type 25 = .ok (.if_icmp .ne 6, 3) := by decide +kernel
theorem dX7_type_28 : decode cX7_type 28 = .ok (.bipush (-3), 2) := by decide +kernel
theorem dX7_type_30 : decode cX7_type 30 = .ok (.ireturn, 1) := by decide +kernel
theorem dX7_type_31 : decode cX7_type 31 = .ok (.aload_n 0, 1) := by decide +kernel
theorem dX7_type_32 : decode cX7_type 32 = .ok (.getfield 7, 3) := by decide +kernel
theorem dX7_type_35 : decode cX7_type 35 = .ok (.aload_n 0, 1) := by decide +kernel
theorem dX7_type_36 : decode cX7_type 36 = .ok (.getfield 76, 3) := by decide +kernel
theorem dX7_type_39 : decode cX7_type 39 = .ok (.iload_n 1, 1) := by decide +kernel
theorem dX7_type_40 : decode cX7_type 40 = .ok (.iastore, 1) := by decide +kernel
theorem dX7_type_41 : decode cX7_type 41 = .ok (.aload_n 0, 1) := by decide +kernel
theorem dX7_type_42 : decode cX7_type 42 = .ok (.dup, 1) := by decide +kernel
theorem dX7_type_43 : decode cX7_type 43 = .ok (.getfield 76, 3) := by decide +kernel
theorem dX7_type_46 : decode cX7_type 46 = .ok (.iconst 1, 1) := by decide +kernel
theorem dX7_type_47 : decode cX7_type 47 = .ok (.iadd, 1) := by decide +kernel
theorem dX7_type_48 : decode cX7_type 48 = .ok (.putfield 76, 3) := by decide +kernel
theorem dX7_type_51 : decode cX7_type 51 = .ok (.aload_n 0, 1) := by decide +kernel
theorem dX7_type_52 : decode cX7_type 52 = .ok (.getfield 76, 3) := by decide +kernel
theorem dX7_type_55 : decode cX7_type 55 = .ok (.ireturn, 1) := by decide +kernel
theorem dX7_clear_0 : decode cX7_clear 0 = .ok (.aload_n 0, 1) := by decide +kernel
theorem dX7_clear_1 : decode cX7_clear 1 = .ok (.iconst 0, 1) := by decide +kernel
theorem dX7_clear_2 : decode cX7_clear 2 = .ok (.putfield 68, 3) := by decide +kernel
theorem dX7_clear_5 : decode cX7_clear 5 = .ok (.aload_n 0, 1) := by decide +kernel
theorem dX7_clear_6 : decode cX7_clear 6 = .ok (.getfield 76, 3) := by decide +kernel
theorem dX7_clear_9 : decode cX7_clear 9 = .ok (.istore_n 1, 1) := by decide +kernel
theorem dX7_clear_10 : decode cX7_clear 10 = .ok (.aload_n 0, 1) := by decide +kernel
theorem dX7_clear_11 : decode cX7_clear 11 = .ok (.iconst 0, 1) := by decide +kernel
theorem dX7_clear_12 : decode cX7_clear 12 = .ok (.putfield 76, 3) := by decide +kernel
theorem dX7_clear_15 : decode cX7_clear 15 = .ok (.iload_n 1, 1) := by decide +kernel
theorem dX7_clear_16 : decode cX7_clear 16 = .ok (.ireturn, 1) := by decide +kernel
theorem dX7_letterAt_0 : decode cX7_letterAt 0 = .ok (.iload_n 1, 1) := by decide +kernel
theorem dX7_letterAt_1 : decode cX7_letterAt 1 = .ok (.aload_n 0, 1) := by decide +kernel
theorem dX7_letterAt_2 : decode cX7_letterAt 2 = .ok (.getfield 76, 3) := by decide +kernel
theorem dX7_letterAt_5 : decode cX7_letterAt 5 = .ok (.if_icmp .ge 12, 3) := by decide +kernel
theorem dX7_letterAt_8 : decode cX7_letterAt 8 = .ok (.aload_n 0, 1) := by decide +kernel
theorem dX7_letterAt_9 : decode cX7_letterAt 9 = .ok (.getfield 7, 3) := by decide +kernel
theorem dX7_letterAt_12 : decode cX7_letterAt 12 = .ok (.iload_n 1, 1) := by decide +kernel
theorem dX7_letterAt_13 : decode cX7_letterAt 13 = .ok (.iaload, 1) := by decide +kernel
theorem dX7_letterAt_14 : decode cX7_letterAt 14 = .ok (.goto 4, 3) := by decide +kernel
theorem dX7_letterAt_17 : decode cX7_letterAt 17 = .ok (.iconst (-1), 1) := by decide +kernel
theorem dX7_letterAt_18 : decode cX7_letterAt 18 = .ok (.ireturn, 1) := by decide +kernel
theorem dX7_isLetter_0 : decode cX7_isLetter 0 = .ok (.iload_n 0, 1) := by decide +kernel
theorem dX7_isLetter_1 : decode cX7_isLetter 1 = .ok (.bipush 119, 2) := by decide +kernel
theorem dX7_isLetter_3 : decode cX7_isLetter 3 = .ok (.if_icmp .eq 33, 3) := by decide +kernel
theorem dX7_isLetter_6 : decode cX7_isLetter 6 = .ok (.iload_n 0, 1) := by decide +kernel
theorem dX7_isLetter_7 : decode cX7_isLetter 7 = .ok (.bipush 111, 2) := by decide +kernel
theorem dX7_isLetter_9 : decode cX7_isLetter 9 = .ok (.if_icmp .eq 27, 3) := by decide +kernel
theorem dX7_isLetter_12 : decode cX7_isLetter 12 = .ok (.iload_n 0, 1) := by decide +kernel
theorem dX7_isLetter_13 : decode cX7_isLetter 13 = .ok (.bipush 114, 2) := by decide +kernel
theorem dX7_isLetter_15 : decode cX7_isLetter 15 = .ok (.if_icmp .eq 21, 3) := by decide +kernel
theorem dX7_isLetter_18 : decode cX7_isLetter 18 = .ok (.iload_n 0, 1) := by decide +kernel
theorem dX7_isLetter_19 : decode cX7_isLetter 19 = .ok (.bipush 116, 2) := by decide +kernel
theorem dX7_isLetter_21 : decode cX7_isLetter 21 = .ok (.if_icmp .eq 15, 3) := by decide +kernel
theorem dX7_isLetter_24 : decode cX7_isLetter 24 = .ok (.iload_n 0, 1) := by decide +kernel
theorem dX7_isLetter_25 : decode cX7_isLetter 25 = .ok (.bipush 112, 2) := by decide +kernel
theorem dX7_isLetter_27 : decode cX7_isLetter 27 = .ok (.if_icmp .eq 9, 3) := by decide +kernel
theorem dX7_isLetter_30 : decode cX7_isLetter 30 = .ok (.iload_n 0, 1) := by decide +kernel
theorem dX7_isLetter_31 : decode cX7_isLetter 31 = .ok (.bipush 108, 2) := by decide +kernel
theorem dX7_isLetter_33 : decode cX7_isLetter 33 = .ok (.if_icmp .ne 7, 3) := by decide +kernel
theorem dX7_isLetter_36 : decode cX7_isLetter 36 = .ok (.iconst 1, 1) := by decide +kernel
theorem dX7_isLetter_37 : decode cX7_isLetter 37 = .ok (.goto 4, 3) := by decide +kernel
theorem dX7_isLetter_40 : decode cX7_isLetter 40 = .ok (.iconst 0, 1) := by decide +kernel
theorem dX7_isLetter_41 : decode cX7_isLetter 41 = .ok (.ireturn, 1) := by decide +kernel
theorem dX7_advances_0 : decode cX7_advances 0 = .ok (.aload_n 0, 1) := by decide +kernel
theorem dX7_advances_1 : decode cX7_advances 1 = .ok (.aload_n 0, 1) := by decide +kernel
theorem dX7_advances_2 : decode cX7_advances 2 = .ok (.getfield 79, 3) := by decide +kernel
theorem dX7_advances_5 : decode cX7_advances 5 = .ok (.invokevirtual 82, 3) := by decide +kernel
theorem dX7_advances_8 : decode cX7_advances 8 = .ok (.bipush 32, 2) := by decide +kernel
theorem dX7_advances_10 : decode cX7_advances 10 = .ok (.if_icmp .ne 16, 3) := by decide +kernel
theorem dX7_advances_13 : decode cX7_advances 13 = .ok (.aload_n 0, 1) := by decide +kernel
theorem dX7_advances_14 : decode cX7_advances 14 = .ok (.dup, 1) := by decide +kernel
theorem dX7_advances_15 : decode cX7_advances 15 = .ok (.getfield 79, 3) := by decide +kernel
theorem dX7_advances_18 : decode cX7_advances 18 = .ok (.iconst 1, 1) := by decide +kernel
theorem dX7_advances_19 : decode cX7_advances 19 = .ok (.iadd, 1) := by decide +kernel
theorem dX7_advances_20 : decode cX7_advances 20 = .ok (.putfield 79, 3) := by decide +kernel
theorem dX7_advances_23 : decode cX7_advances 23 = .ok (.goto (-23), 3) := by decide +kernel
theorem dX7_advances_26 : decode cX7_advances 26 = .ok (.aload_n 0, 1) := by decide +kernel
theorem dX7_advances_27 : decode cX7_advances 27 = .ok (.aload_n 0, 1) := by decide +kernel
theorem dX7_advances_28 : decode cX7_advances 28 = .ok (.getfield 79, 3) := by decide +kernel
theorem dX7_advances_31 : decode cX7_advances 31 = .ok (.putfield 86, 3) := by decide +kernel
theorem dX7_advances_34 : decode cX7_advances 34 = .ok (.aload_n 0, 1) := by decide +kernel
theorem dX7_advances_35 : decode cX7_advances 35 = .ok (.aload_n 0, 1) := by decide +kernel
theorem dX7_advances_36 : decode cX7_advances 36 = .ok (.getfield 79, 3) := by decide +kernel
theorem dX7_advances_39 : decode cX7_advances 39 = .ok (.invokevirtual 82, 3) := by decide +kernel
theorem dX7_advances_42 : decode cX7_advances 42 = .ok (.istore_n 1, 1) := by decide +kernel
theorem dX7_advances_43 : decode cX7_advances 43 = .ok (.iload_n 1, 1) := by decide +kernel
theorem dX7_advances_44 : decode cX7_advances 44 = .ok (.ifCond .ge 11, 3) := by decide +kernel
theorem dX7_advances_47 : decode cX7_advances 47 = .ok (.aload_n 0, 1) := by decide +kernel
theorem dX7_advances_48 : decode cX7_advances 48 = .ok (.iconst 0, 1) := by decide +kernel
theorem dX7_advances_49 : decode cX7_advances 49 = .ok (.putfield 89, 3) := by decide +kernel
theorem dX7_advances_52 : decode cX7_advances 52 = .ok (.goto 170, 3) := by decide +kernel
theorem dX7_advances_55 : decode cX7_advances 55 = .ok (.iload_n 1, 1) := by decide +kernel
theorem dX7_advances_56 : decode cX7_advances 56 = .ok (.bipush 48, 2) := by decide +kernel
theorem dX7_advances_58 : decode cX7_advances 58 = .ok (.bipush 57, 2) := by decide +kernel
theorem dX7_advances_60 : decode cX7_advances 60 = .ok (.invokestatic 72, 3) := by decide +kernel
theorem dX7_advances_63 : decode cX7_advances 63 = .ok (.ifCond .eq 118, 3) := by decide +kernel
theorem dX7_advances_66 : decode cX7_advances 66 = .ok (.aload_n 0, 1) := by decide +kernel
theorem dX7_advances_67 : decode cX7_advances 67 = .ok (.iconst 0, 1) := by decide +kernel
theorem dX7_advances_68 : decode cX7_advances 68 = .ok (.putfield 92, 3) := by decide +kernel
theorem dX7_advances_71 : decode cX7_advances 71 = .ok (.aload_n 0, 1) := by decide +kernel
theorem dX7_advances_72 : decode cX7_advances 72 = .ok (.aload_n 0, 1) := by decide +kernel
theorem dX7_advances_73 : decode cX7_advances 73 = .ok (.getfield 79, 3) := by decide +kernel
theorem dX7_advances_76 : decode cX7_advances 76 = .ok (.invokevirtual 82, 3) := by decide +kernel
theorem dX7_advances_79 : decode cX7_advances 79 = .ok (.bipush 48, 2) := by decide +kernel
theorem dX7_advances_81 : decode cX7_advances 81 = .ok (.bipush 57, 2) := by decide +kernel
theorem dX7_advances_83 : decode cX7_advances 83 = .ok (.invokestatic 72, 3) := by decide +kernel
theorem dX7_advances_86 : decode cX7_advances 86 = .ok (.ifCond .eq 55, 3) := by decide +kernel
theorem dX7_advances_89 : decode cX7_advances 89 = .ok (.aload_n 0, 1) := by decide +kernel
theorem dX7_advances_90 : decode cX7_advances 90 = .ok (.aload_n 0, 1) := by decide +kernel
theorem dX7_advances_91 : decode cX7_advances 91 = .ok (.getfield 92, 3) := by decide +kernel
theorem dX7_advances_94 : decode cX7_advances 94 = .ok (.bipush 99, 2) := by decide +kernel
theorem dX7_advances_96 : decode cX7_advances 96 = .ok (.if_icmp .le 10, 3) := by decide +kernel
theorem dX7_advances_99 : decode cX7_advances 99 = .ok (.aload_n 0, 1) := by decide +kernel
theorem dX7_advances_100 : decode cX7_advances 100 = .ok (.getfield 92, 3) := by decide +kernel
theorem dX7_advances_103 : decode cX7_advances 103 = .ok (.goto 22, 3) := by decide +kernel
theorem dX7_advances_106 : decode cX7_advances 106 = .ok (.bipush 10, 2) := by decide +kernel
theorem dX7_advances_108 : decode cX7_advances 108 = .ok (.aload_n 0, 1) := by decide +kernel
theorem dX7_advances_109 : decode cX7_advances 109 = .ok (.getfield 92, 3) := by decide +kernel
theorem dX7_advances_112 : decode cX7_advances 112 = .ok (.imul, 1) := by decide +kernel
theorem dX7_advances_113 : decode cX7_advances 113 = .ok (.aload_n 0, 1) := by decide +kernel
theorem dX7_advances_114 : decode cX7_advances 114 = .ok (.aload_n 0, 1) := by decide +kernel
theorem dX7_advances_115 : decode cX7_advances 115 = .ok (.getfield 79, 3) := by decide +kernel
theorem dX7_advances_118 : decode cX7_advances 118 = .ok (.invokevirtual 82, 3) := by decide +kernel
theorem dX7_advances_121 : decode cX7_advances 121 = .ok (.iadd, 1) := by decide +kernel
theorem dX7_advances_122 : decode cX7_advances 122 = .ok (.bipush 48, 2) := by decide +kernel
theorem dX7_advances_124 : decode cX7_advances 124 = .ok (.isub, 1) := by decide +kernel
theorem dX7_advances_125 : decode cX7_advances 125 = .ok (.putfield 92, 3) := by decide +kernel
theorem dX7_advances_128 : decode cX7_advances 128 = .ok (.aload_n 0, 1) := by decide +kernel
theorem dX7_advances_129 : decode cX7_advances 129 = .ok (.dup, 1) := by decide +kernel
theorem dX7_advances_130 : decode cX7_advances 130 = .ok (.getfield 79, 3) := by decide +kernel
theorem dX7_advances_133 : decode cX7_advances 133 = .ok (.iconst 1, 1) := by decide +kernel
theorem dX7_advances_134 : decode cX7_advances 134 = .ok (.iadd, 1) := by decide +kernel
theorem dX7_advances_135 : decode cX7_advances 135 = .ok (.putfield 79, 3) := by decide +kernel
theorem dX7_advances_138 : decode cX7_advances 138 = .ok (.goto (-67), 3) := by decide +kernel
theorem dX7_advances_141 : decode cX7_advances 141 = .ok (.aload_n 0, 1) := by decide +kernel
theorem dX7_advances_142 : decode cX7_advances 142 = .ok (.aload_n 0, 1) := by decide +kernel
theorem dX7_advances_143 : decode cX7_advances 143 = .ok (.getfield 92, 3) := by decide +kernel
theorem dX7_advances_146 : decode cX7_advances 146 = .ok (.bipush 99, 2) := by decide +kernel
theorem dX7_advances_148 : decode cX7_advances 148 = .ok (.if_icmp .gt 22, 3) := by decide +kernel
theorem dX7_advances_151 : decode cX7_advances 151 = .ok (.iload_n 1, 1) := by decide +kernel
theorem dX7_advances_152 : decode cX7_advances 152 = .ok (.bipush 48, 2) := by decide +kernel
theorem dX7_advances_154 : decode cX7_advances 154 = .ok (.if_icmp .ne 20, 3) := by decide +kernel
theorem dX7_advances_157 : decode cX7_advances 157 = .ok (.aload_n 0, 1) := by decide +kernel
theorem dX7_advances_158 : decode cX7_advances 158 = .ok (.getfield 79, 3) := by decide +kernel
theorem dX7_advances_161 : decode cX7_advances 161 = .ok (.aload_n 0, 1) := by decide +kernel
theorem dX7_advances_162 : decode cX7_advances 162 = .ok (.getfield 86, 3) := by decide +kernel
theorem dX7_advances_165 : decode cX7_advances 165 = .ok (.isub, 1) := by decide +kernel
theorem dX7_advances_166 : decode cX7_advances 166 = .ok (.iconst 1, 1) := by decide +kernel
theorem dX7_advances_167 : decode cX7_advances 167 = .ok (.if_icmp .le 7, 3) := by decide +kernel
theorem dX7_advances_170 : decode cX7_advances 170 = .ok (.iconst 4, 1) := by decide +kernel
theorem dX7_advances_171 : decode cX7_advances 171 = .ok (.goto 4, 3) := by decide +kernel
theorem dX7_advances_174 : decode cX7_advances 174 = .ok (.iconst 2, 1) := by decide +kernel
theorem dX7_advances_175 : decode cX7_advances 175 = .ok (.putfield 89, 3) := by decide +kernel
theorem dX7_advances_178 : decode cX7_advances 178 = .ok (.goto 44, 3) := by decide +kernel
theorem dX7_advances_181 : decode cX7_advances 181 = .ok (.aload_n 0, 1) := by decide +kernel
theorem dX7_advances_182 : decode cX7_advances 182 = .ok (.dup, 1) := by decide +kernel
theorem dX7_advances_183 : decode cX7_advances 183 = .ok (.getfield 79, 3) := by decide +kernel
theorem dX7_advances_186 : decode cX7_advances 186 = .ok (.iconst 1, 1) := by decide +kernel
theorem dX7_advances_187 : decode cX7_advances 187 = .ok (.iadd, 1) := by decide +kernel
theorem dX7_advances_188 : decode cX7_advances 188 = .ok (.putfield 79, 3) := by decide +kernel
theorem dX7_advances_191 : decode cX7_advances 191 = .ok (.aload_n 0, 1) := by decide +kernel
theorem dX7_advances_192 : decode cX7_advances 192 = .ok (.iload_n 1, 1) := by decide +kernel
theorem dX7_advances_193 : decode cX7_advances 193 = .ok (.putfield 92, 3) := by decide +kernel
theorem dX7_advances_196 : decode cX7_advances 196 = .ok (.aload_n 0, 1) := by decide +kernel
theorem dX7_advances_197 : decode cX7_advances 197 = .ok (.iload_n 1, 1) := by decide +kernel
theorem dX7_advances_198 : decode cX7_advances 198 = .ok (.bipush 59, 2) := by decide +kernel
theorem dX7_advances_200 : decode cX7_advances 200 = .ok (.if_icmp .ne 7, 3) := by decide +kernel
theorem dX7_advances_203 : decode cX7_advances 203 = .ok (.iconst 3, 1) := by decide +kernel
theorem dX7_advances_204 : decode cX7_advances 204 = .ok (.goto 15, 3) := by decide +kernel
theorem dX7_advances_207 : decode cX7_advances 207 = .ok (.iload_n 1, 1) := by decide +kernel
theorem dX7_advances_208 : decode cX7_advances 208 = .ok (.invokestatic 95, 3) := by decide +kernel
theorem dX7_advances_211 : decode cX7_advances 211 = .ok (.ifCond .eq 7, 3) := by decide +kernel
theorem dX7_advances_214 : decode cX7_advances 214 = .ok (.iconst 1, 1) := by decide +kernel
theorem dX7_advances_215 : decode cX7_advances 215 = .ok (.goto 4, 3) := by decide +kernel
theorem dX7_advances_218 : decode cX7_advances 218 = .ok (.iconst 4, 1) := by decide +kernel
theorem dX7_advances_219 : decode cX7_advances 219 = .ok (.putfield 89, 3) := by decide +kernel
theorem dX7_advances_222 : decode cX7_advances 222 = .ok (.return_, 1) := by decide +kernel
theorem dX7_isWell_0 : decode cX7_isWell 0 = .ok (.aload_n 0, 1) := by decide +kernel
theorem dX7_isWell_1 : decode cX7_isWell 1 = .ok (.getfield 99, 3) := by decide +kernel
theorem dX7_isWell_4 : decode cX7_isWell 4 = .ok (.ifCond .ge 7, 3) := by decide +kernel
theorem dX7_isWell_7 : decode cX7_isWell 7 = .ok (.iconst 1, 1) := by decide +kernel
theorem dX7_isWell_8 : decode cX7_isWell 8 = .ok (.goto 4, 3) := by decide +kernel
theorem dX7_isWell_11 : decode cX7_isWell 11 = .ok (.iconst 0, 1) := by decide +kernel
theorem dX7_isWell_12 : decode cX7_isWell 12 = .ok (.ireturn, 1) := by decide +kernel
theorem dX7_takes_0 : decode cX7_takes 0 = .ok (.aload_n 0, 1) := by decide +kernel
theorem dX7_takes_1 : decode cX7_takes 1 = .ok (.invokevirtual 102, 3) := by decide +kernel
theorem dX7_takes_4 : decode cX7_takes 4 = .ok (.ifCond .ne 5, 3) := by decide +kernel
theorem dX7_takes_7 : decode cX7_takes 7 = .ok (.iconst 0, 1) := by decide +kernel
theorem dX7_takes_8 : decode cX7_takes 8 = .ok (.ireturn, 1) := by decide +kernel
theorem dX7_takes_9 : decode cX7_takes 9 = .ok (.iload_n 1, 1) := by decide +kernel
theorem dX7_takes_10 : decode cX7_takes 10 = .ok (.ifCond .ne 13, 3) := by decide +kernel
theorem dX7_takes_13 : decode cX7_takes 13 = .ok (.aload_n 0, 1) := by decide +kernel
theorem dX7_takes_14 : decode cX7_takes 14 = .ok (.aload_n 0, 1) := by decide +kernel
theorem dX7_takes_15 : decode cX7_takes 15 = .ok (.getfield 86, 3) := by decide +kernel
theorem dX7_takes_18 : decode cX7_takes 18 = .ok (.putfield 99, 3) := by decide +kernel
theorem dX7_takes_21 : decode cX7_takes 21 = .ok (.iconst 0, 1) := by decide +kernel
theorem dX7_takes_22 : decode cX7_takes 22 = .ok (.ireturn, 1) := by decide +kernel
theorem dX7_takes_23 : decode cX7_takes 23 = .ok (.aload_n 0, 1) := by decide +kernel
theorem dX7_takes_24 : decode cX7_takes 24 = .ok (.getfield 92, 3) := by decide +kernel
theorem dX7_takes_27 : decode cX7_takes 27 = .ok (.istore_n 2, 1) := by decide +kernel
theorem dX7_takes_28 : decode cX7_takes 28 = .ok (.aload_n 0, 1) := by decide +kernel
theorem dX7_takes_29 : decode cX7_takes 29 = .ok (.invokevirtual 106, 3) := by decide +kernel
theorem dX7_takes_32 : decode cX7_takes 32 = .ok (.iload_n 2, 1) := by decide +kernel
theorem dX7_takes_33 : decode cX7_takes 33 = .ok (.ireturn, 1) := by decide +kernel
theorem dX7_number_0 : decode cX7_number 0 = .ok (.aload_n 0, 1) := by decide +kernel
theorem dX7_number_1 : decode cX7_number 1 = .ok (.aload_n 0, 1) := by decide +kernel
theorem dX7_number_2 : decode cX7_number 2 = .ok (.getfield 89, 3) := by decide +kernel
theorem dX7_number_5 : decode cX7_number 5 = .ok (.iconst 2, 1) := by decide +kernel
theorem dX7_number_6 : decode cX7_number 6 = .ok (.if_icmp .ne 19, 3) := by decide +kernel
theorem dX7_number_9 : decode cX7_number 9 = .ok (.aload_n 0, 1) := by decide +kernel
theorem dX7_number_10 : decode cX7_number 10 = .ok (.getfield 92, 3) := by decide +kernel
theorem dX7_number_13 : decode cX7_number 13 = .ok (.iload_n 1, 1) := by decide +kernel
theorem dX7_number_14 : decode cX7_number 14 = .ok (.iload_n 2, 1) := by decide +kernel
theorem dX7_number_15 : decode cX7_number 15 = .ok (.invokestatic 72, 3) := by decide +kernel
theorem dX7_number_18 : decode cX7_number 18 = .ok (.ifCond .eq 7, 3) := by decide +kernel
theorem dX7_number_21 : decode cX7_number 21 = .ok (.iconst 1, 1) := by decide +kernel
theorem dX7_number_22 : decode cX7_number 22 = .ok (.goto 4, 3) := by decide +kernel
theorem dX7_number_25 : decode cX7_number 25 = .ok (.iconst 0, 1) := by decide +kernel
theorem dX7_number_26 : decode cX7_number 26 = .ok (.invokevirtual 109, 3) := by decide +kernel
theorem dX7_number_29 : decode cX7_number 29 = .ok (.ireturn, 1) := by decide +kernel
theorem dX7_begins_0 : decode cX7_begins 0 = .ok (.aload_n 0, 1) := by decide +kernel
theorem dX7_begins_1 : decode cX7_begins 1 = .ok (.iconst 0, 1) := by decide +kernel
theorem dX7_begins_2 : decode cX7_begins 2 = .ok (.putfield 113, 3) := by decide +kernel
theorem dX7_begins_5 : decode cX7_begins 5 = .ok (.aload_n 0, 1) := by decide +kernel
theorem dX7_begins_6 : decode cX7_begins 6 = .ok (.getfield 13, 3) := by decide +kernel
theorem dX7_begins_9 : decode cX7_begins 9 = .ok (.bipush 6, 2) := by decide +kernel
theorem dX7_begins_11 : decode cX7_begins 11 = .ok (.iconst 0, 1) := by decide +kernel
theorem dX7_begins_12 : decode cX7_begins 12 = .ok (.iastore, 1) := by decide +kernel
theorem dX7_begins_13 : decode cX7_begins 13 = .ok (.aload_n 0, 1) := by decide +kernel
theorem dX7_begins_14 : decode cX7_begins 14 = .ok (.getfield 13, 3) := by decide +kernel
theorem dX7_begins_17 : decode cX7_begins 17 = .ok (.bipush 7, 2) := by decide +kernel
theorem dX7_begins_19 : decode cX7_begins 19 = .ok (.iconst 0, 1) := by decide +kernel
theorem dX7_begins_20 : decode cX7_begins 20 = .ok (.iastore, 1) := by decide +kernel
theorem dX7_begins_21 : decode cX7_begins 21 = .ok (.aload_n 0, 1) := by decide +kernel
theorem dX7_begins_22 : decode cX7_begins 22 = .ok (.getfield 13, 3) := by decide +kernel
theorem dX7_begins_25 : decode cX7_begins 25 = .ok (.bipush 8, 2) := by decide +kernel
theorem dX7_begins_27 : decode cX7_begins 27 = .ok (.bipush 9, 2) := by decide +kernel
theorem dX7_begins_29 : decode cX7_begins 29 = .ok (.iastore, 1) := by decide +kernel
theorem dX7_begins_30 : decode cX7_begins 30 = .ok (.aload_n 0, 1) := by decide +kernel
theorem dX7_begins_31 : decode cX7_begins 31 = .ok (.getfield 13, 3) := by decide +kernel
theorem dX7_begins_34 : decode cX7_begins 34 = .ok (.bipush 9, 2) := by decide +kernel
theorem dX7_begins_36 : decode cX7_begins 36 = .ok (.iconst 3, 1) := by decide +kernel
theorem dX7_begins_37 : decode cX7_begins 37 = .ok (.iastore, 1) := by decide +kernel
theorem dX7_begins_38 : decode cX7_begins 38 = .ok (.aload_n 0, 1) := by decide +kernel
theorem dX7_begins_39 : decode cX7_begins 39 = .ok (.getfield 13, 3) := by decide +kernel
theorem dX7_begins_42 : decode cX7_begins 42 = .ok (.bipush 10, 2) := by decide +kernel
theorem dX7_begins_44 : decode cX7_begins 44 = .ok (.bipush 11, 2) := by decide +kernel
theorem dX7_begins_46 : decode cX7_begins 46 = .ok (.iastore, 1) := by decide +kernel
theorem dX7_begins_47 : decode cX7_begins 47 = .ok (.aload_n 0, 1) := by decide +kernel
theorem dX7_begins_48 : decode cX7_begins 48 = .ok (.getfield 13, 3) := by decide +kernel
theorem dX7_begins_51 : decode cX7_begins 51 = .ok (.bipush 11, 2) := by decide +kernel
theorem dX7_begins_53 : decode cX7_begins 53 = .ok (.bipush 9, 2) := by decide +kernel
theorem dX7_begins_55 : decode cX7_begins 55 = .ok (.iastore, 1) := by decide +kernel
theorem dX7_begins_56 : decode cX7_begins 56 = .ok (.return_, 1) := by decide +kernel
theorem dX7_fixed_0 : decode cX7_fixed 0 = .ok (.iload_n 0, 1) := by decide +kernel
theorem dX7_fixed_1 : decode cX7_fixed 1 = .ok (.bipush 114, 2) := by decide +kernel
theorem dX7_fixed_3 : decode cX7_fixed 3 = .ok (.if_icmp .ne 7, 3) := by decide +kernel
theorem dX7_fixed_6 : decode cX7_fixed 6 = .ok (.iconst 2, 1) := by decide +kernel
theorem dX7_fixed_7 : decode cX7_fixed 7 = .ok (.goto 24, 3) := by decide +kernel
theorem dX7_fixed_10 : decode cX7_fixed 10 = .ok (.iload_n 0, 1) := by decide +kernel
theorem dX7_fixed_11 : decode cX7_fixed 11 = .ok (.bipush 116, 2) := by decide +kernel
theorem dX7_fixed_13 : decode cX7_fixed 13 = .ok (.if_icmp .ne 7, 3) := by decide +kernel
theorem dX7_fixed_16 : decode cX7_fixed 16 = .ok (.iconst 3, 1) := by decide +kernel
theorem dX7_fixed_17 : decode cX7_fixed 17 = .ok (.goto 14, 3) := by decide +kernel
theorem dX7_fixed_20 : decode cX7_fixed 20 = .ok (.iload_n 0, 1) := by decide +kernel
theorem dX7_fixed_21 : decode cX7_fixed 21 = .ok (.bipush 112, 2) := by decide +kernel
theorem dX7_fixed_23 : decode cX7_fixed 23 = .ok (.if_icmp .ne 7, 3) := by decide +kernel
theorem dX7_fixed_26 : decode cX7_fixed 26 = .ok (.iconst 4, 1) := by decide +kernel
theorem dX7_fixed_27 : decode cX7_fixed 27 = .ok (.goto 4, 3) := by decide +kernel
theorem dX7_fixed_30 : decode cX7_fixed 30 = .ok (.iconst 5, 1) := by decide +kernel
theorem dX7_fixed_31 : decode cX7_fixed 31 = .ok (.ireturn, 1) := by decide +kernel
theorem dX7_mayBegin_0 : decode cX7_mayBegin 0 = .ok (.aload_n 0, 1) := by decide +kernel
theorem dX7_mayBegin_1 : decode cX7_mayBegin 1 = .ok (.getfield 92, 3) := by decide +kernel
theorem dX7_mayBegin_4 : decode cX7_mayBegin 4 = .ok (.bipush 119, 2) := by decide +kernel
theorem dX7_mayBegin_6 : decode cX7_mayBegin 6 = .ok (.if_icmp .eq 12, 3) := by decide +kernel
theorem dX7_mayBegin_9 : decode cX7_mayBegin 9 = .ok (.aload_n 0, 1) := by decide +kernel
theorem dX7_mayBegin_10 : decode cX7_mayBegin 10 = .ok (.getfield 92, 3) := by decide +kernel
theorem dX7_mayBegin_13 : decode cX7_mayBegin 13 = .ok (.bipush 111, 2) := by decide +kernel
theorem dX7_mayBegin_15 : decode cX7_mayBegin 15 = .ok (.if_icmp .ne 36, 3) := by decide +kernel
theorem dX7_mayBegin_18 : decode cX7_mayBegin 18 = .ok (.aload_n 0, 1) := by decide +kernel
theorem dX7_mayBegin_19 : decode cX7_mayBegin 19 = .ok (.getfield 13, 3) := by decide +kernel
theorem dX7_mayBegin_22 : decode cX7_mayBegin 22 = .ok (.bipush 6, 2) := by decide +kernel
theorem dX7_mayBegin_24 : decode cX7_mayBegin 24 = .ok (.aload_n 0, 1) := by decide +kernel
theorem dX7_mayBegin_25 : decode cX7_mayBegin 25 = .ok (.getfield 92, 3) := by decide +kernel
theorem dX7_mayBegin_28 : decode cX7_mayBegin 28 = .ok (.bipush 119, 2) := by decide +kernel
theorem dX7_mayBegin_30 : decode cX7_mayBegin 30 = .ok (.if_icmp .ne 7, 3) := by decide +kernel
theorem dX7_mayBegin_33 : decode cX7_mayBegin 33 = .ok (.iconst 0, 1) := by decide +kernel
theorem dX7_mayBegin_34 : decode cX7_mayBegin 34 = .ok (.goto 4, 3) := by decide +kernel
theorem dX7_mayBegin_37 : decode cX7_mayBegin 37 = .ok (.iconst 1, 1) := by decide +kernel
theorem dX7_mayBegin_38 : decode cX7_mayBegin 38 = .ok (.iadd, 1) := by decide +kernel
theorem dX7_mayBegin_39 : decode cX7_mayBegin 39 = .ok (.iaload, 1) := by decide +kernel
theorem dX7_mayBegin_40 : decode cX7_mayBegin 40 = .ok (.bipush 6, 2) := by decide +kernel
theorem dX7_mayBegin_42 : decode cX7_mayBegin 42 = .ok (.if_icmp .ge 7, 3) := by decide +kernel
theorem dX7_mayBegin_45 : decode cX7_mayBegin 45 = .ok (.iconst 1, 1) := by decide +kernel
theorem dX7_mayBegin_46 : decode cX7_mayBegin 46 = .ok (.goto 4, 3) := by decide +kernel
theorem dX7_mayBegin_49 : decode cX7_mayBegin 49 = .ok (.iconst 0, 1) := by decide +kernel
theorem dX7_mayBegin_50 : decode cX7_mayBegin 50 = .ok (.ireturn, 1) := by decide +kernel
theorem dX7_mayBegin_51 : decode cX7_mayBegin 51 = .ok (.aload_n 0, 1) := by decide +kernel
theorem dX7_mayBegin_52 : decode cX7_mayBegin 52 = .ok (.getfield 113, 3) := by decide +kernel
theorem dX7_mayBegin_55 : decode cX7_mayBegin 55 = .ok (.aload_n 0, 1) := by decide +kernel
theorem dX7_mayBegin_56 : decode cX7_mayBegin 56 = .ok (.getfield 92, 3) := by decide +kernel
theorem dX7_mayBegin_59 : decode cX7_mayBegin 59 = .ok (.invokestatic 116, 3) := by decide +kernel
theorem dX7_mayBegin_62 : decode cX7_mayBegin 62 = .ok (.ishr, 1) := by decide +kernel
theorem dX7_mayBegin_63 : decode cX7_mayBegin 63 = .ok (.iconst 1, 1) := by decide +kernel
theorem dX7_mayBegin_64 : decode cX7_mayBegin 64 = .ok (.iand, 1) := by decide +kernel
theorem dX7_mayBegin_65 : decode cX7_mayBegin 65 = .ok (.ifCond .ne 7, 3) := by decide +kernel
theorem dX7_mayBegin_68 : decode cX7_mayBegin 68 = .ok (.iconst 1, 1) := by decide +kernel
theorem dX7_mayBegin_69 : decode cX7_mayBegin 69 = .ok (.goto 4, 3) := by decide +kernel
theorem dX7_mayBegin_72 : decode cX7_mayBegin 72 = .ok (.iconst 0, 1) := by decide +kernel
theorem dX7_mayBegin_73 : decode cX7_mayBegin 73 = .ok (.ireturn, 1) := by decide +kernel
theorem dX7_readsItem_0 : decode cX7_readsItem 0 = .ok (.iload_n 1, 1) := by decide +kernel
theorem dX7_readsItem_1 : decode cX7_readsItem 1 = .ok (.bipush 119, 2) := by decide +kernel
theorem dX7_readsItem_3 : decode cX7_readsItem 3 = .ok (.if_icmp .ne 54, 3) := by decide +kernel
theorem dX7_readsItem_6 : decode cX7_readsItem 6 = .ok (.aload_n 0, 1) := by decide +kernel
theorem dX7_readsItem_7 : decode cX7_readsItem 7 = .ok (.getfield 13, 3) := by decide +kernel
theorem dX7_readsItem_10 : decode cX7_readsItem 10 = .ok (.bipush 6, 2) := by decide +kernel
theorem dX7_readsItem_12 : decode cX7_readsItem 12 = .ok (.iaload, 1) := by decide +kernel
theorem dX7_readsItem_13 : decode cX7_readsItem 13 = .ok (.istore_n 2, 1) := by decide +kernel
theorem dX7_readsItem_14 : decode cX7_readsItem 14 = .ok (.aload_n 0, 1) := by decide +kernel
theorem dX7_readsItem_15 : decode cX7_readsItem 15 = .ok (.getfield 16, 3) := by decide +kernel
theorem dX7_readsItem_18 : decode cX7_readsItem 18 = .ok (.bipush 6, 2) := by decide +kernel
theorem dX7_readsItem_20 : decode cX7_readsItem 20 = .ok (.iload_n 2, 1) := by decide +kernel
theorem dX7_readsItem_21 : decode cX7_readsItem 21 = .ok (.iadd, 1) := by decide +kernel
theorem dX7_readsItem_22 : decode cX7_readsItem 22 = .ok (.aload_n 0, 1) := by decide +kernel
theorem dX7_readsItem_23 : decode cX7_readsItem 23 = .ok (.iconst 1, 1) := by decide +kernel
theorem dX7_readsItem_24 : decode cX7_readsItem 24 = .ok (.bipush 9, 2) := by decide +kernel
theorem dX7_readsItem_26 : decode cX7_readsItem 26 = .ok (.invokevirtual 119, 3) := by decide +kernel
theorem dX7_readsItem_29 : decode cX7_readsItem 29 = .ok (.iastore, 1) := by decide +kernel
theorem dX7_readsItem_30 : decode cX7_readsItem 30 = .ok (.aload_n 0, 1) := by decide +kernel
theorem dX7_readsItem_31 : decode cX7_readsItem 31 = .ok (.getfield 19, 3) := by decide +kernel
theorem dX7_readsItem_34 : decode cX7_readsItem 34 = .ok (.iload_n 2, 1) := by decide +kernel
theorem dX7_readsItem_35 : decode cX7_readsItem 35 = .ok (.aload_n 0, 1) := by decide +kernel
theorem dX7_readsItem_36 : decode cX7_readsItem 36 = .ok (.iconst 0, 1) := by decide +kernel
theorem dX7_readsItem_37 : decode cX7_readsItem 37 = .ok (.bipush 30, 2) := by decide +kernel
theorem dX7_readsItem_39 : decode cX7_readsItem 39 = .ok (.invokevirtual 119, 3) := by decide +kernel
theorem dX7_readsItem_42 : decode cX7_readsItem 42 = .ok (.iastore, 1) := by decide +kernel
theorem dX7_readsItem_43 : decode cX7_readsItem 43 = .ok (.aload_n 0, 1) := by decide +kernel
theorem dX7_readsItem_44 : decode cX7_readsItem 44 = .ok (.getfield 13, 3) := by decide +kernel
theorem dX7_readsItem_47 : decode cX7_readsItem 47 = .ok (.bipush 6, 2) := by decide +kernel
theorem dX7_readsItem_49 : decode cX7_readsItem 49 = .ok (.dup2, 1) := by decide +kernel
theorem dX7_readsItem_50 : decode cX7_readsItem 50 = .ok (.iaload, 1) := by decide +kernel
theorem dX7_readsItem_51 : decode cX7_readsItem 51 = .ok (.iconst 1, 1) := by decide +kernel
theorem dX7_readsItem_52 : decode cX7_readsItem 52 = .ok (.iadd, 1) := by decide +kernel
theorem dX7_readsItem_53 : decode cX7_readsItem 53 = .ok (.iastore, 1) := by decide +kernel
theorem dX7_readsItem_54 : decode cX7_readsItem 54 = .ok (.goto 136, 3) := by decide +kernel
theorem dX7_readsItem_57 : decode cX7_readsItem 57 = .ok (.iload_n 1, 1) := by decide +kernel
theorem dX7_readsItem_58 : decode cX7_readsItem 58 = .ok (.bipush 111, 2) := by decide +kernel
theorem dX7_readsItem_60 : decode cX7_readsItem 60 = .ok (.if_icmp .ne 67, 3) := by decide +kernel
theorem dX7_readsItem_63 : decode cX7_readsItem 63 = .ok (.bipush 6, 2) := by decide +kernel
theorem dX7_readsItem_65 : decode cX7_readsItem 65 = .ok (.aload_n 0, 1) := by decide +kernel
theorem dX7_readsItem_66 : decode cX7_readsItem 66 = .ok (.getfield 13, 3) := by decide +kernel
theorem dX7_readsItem_69 : decode cX7_readsItem 69 = .ok (.bipush 7, 2) := by decide +kernel
theorem dX7_readsItem_71 : decode cX7_readsItem 71 = .ok (.iaload, 1) := by decide +kernel
theorem dX7_readsItem_72 : decode cX7_readsItem 72 = .ok (.iadd, 1) := by decide +kernel
theorem dX7_readsItem_73 : decode cX7_readsItem 73 = .ok (.istore_n 2, 1) := by decide +kernel
theorem dX7_readsItem_74 : decode cX7_readsItem 74 = .ok (.aload_n 0, 1) := by decide +kernel
theorem dX7_readsItem_75 : decode cX7_readsItem 75 = .ok (.getfield 22, 3) := by decide +kernel
theorem dX7_readsItem_78 : decode cX7_readsItem 78 = .ok (.iload_n 2, 1) := by decide +kernel
theorem dX7_readsItem_79 : decode cX7_readsItem 79 = .ok (.aload_n 0, 1) := by decide +kernel
theorem dX7_readsItem_80 : decode cX7_readsItem 80 = .ok (.iconst 1, 1) := by decide +kernel
theorem dX7_readsItem_81 : decode cX7_readsItem 81 = .ok (.bipush 60, 2) := by decide +kernel
theorem dX7_readsItem_83 : decode cX7_readsItem 83 = .ok (.invokevirtual 119, 3) := by decide +kernel
theorem dX7_readsItem_86 : decode cX7_readsItem 86 = .ok (.iastore, 1) := by decide +kernel
theorem dX7_readsItem_87 : decode cX7_readsItem 87 = .ok (.aload_n 0, 1) := by decide +kernel
theorem dX7_readsItem_88 : decode cX7_readsItem 88 = .ok (.getfield 25, 3) := by decide +kernel
theorem dX7_readsItem_91 : decode cX7_readsItem 91 = .ok (.iload_n 2, 1) := by decide +kernel
theorem dX7_readsItem_92 : decode cX7_readsItem 92 = .ok (.aload_n 0, 1) := by decide +kernel
theorem dX7_readsItem_93 : decode cX7_readsItem 93 = .ok (.iconst 1, 1) := by decide +kernel
theorem dX7_readsItem_94 : decode cX7_readsItem 94 = .ok (.bipush 60, 2) := by decide +kernel
theorem dX7_readsItem_96 : decode cX7_readsItem 96 = .ok (.invokevirtual 119, 3) := by decide +kernel
theorem dX7_readsItem_99 : decode cX7_readsItem 99 = .ok (.iastore, 1) := by decide +kernel
theorem dX7_readsItem_100 : decode cX7_readsItem 100 = .ok (.aload_n 0, 1) := by decide +kernel
theorem dX7_readsItem_101 : decode cX7_readsItem 101 = .ok (.getfield 28, 3) := by decide +kernel
theorem dX7_readsItem_104 : decode cX7_readsItem 104 = .ok (.iload_n 2, 1) := by decide +kernel
theorem dX7_readsItem_105 : decode cX7_readsItem 105 = .ok (.aload_n 0, 1) := by decide +kernel
theorem dX7_readsItem_106 : decode cX7_readsItem 106 = .ok (.iconst 0, 1) := by decide +kernel
theorem dX7_readsItem_107 : decode cX7_readsItem 107 = .ok (.bipush 99, 2) := by decide +kernel
theorem dX7_readsItem_109 : decode cX7_readsItem 109 = .ok (.invokevirtual 119, 3) := by decide +kernel
theorem dX7_readsItem_112 : decode cX7_readsItem 112 = .ok (.iastore, 1) := by decide +kernel
theorem dX7_readsItem_113 : decode cX7_readsItem 113 = .ok (.aload_n 0, 1) := by decide +kernel
theorem dX7_readsItem_114 : decode cX7_readsItem 114 = .ok (.getfield 13, 3) := by decide +kernel
theorem dX7_readsItem_117 : decode cX7_readsItem 117 = .ok (.bipush 7, 2) := by decide +kernel
theorem dX7_readsItem_119 : decode cX7_readsItem 119 = .ok (.dup2, 1) := by decide +kernel
theorem dX7_readsItem_120 : decode cX7_readsItem 120 = .ok (.iaload, 1) := by decide +kernel
theorem dX7_readsItem_121 : decode cX7_readsItem 121 = .ok (.iconst 1, 1) := by decide +kernel
theorem dX7_readsItem_122 : decode cX7_readsItem 122 = .ok (.iadd, 1) := by decide +kernel
theorem dX7_readsItem_123 : decode cX7_readsItem 123 = .ok (.iastore, 1) := by decide +kernel
theorem dX7_readsItem_124 : decode cX7_readsItem 124 = .ok (.goto 66, 3) := by decide +kernel
theorem dX7_readsItem_127 : decode cX7_readsItem 127 = .ok (.iload_n 1, 1) := by decide +kernel
theorem dX7_readsItem_128 : decode cX7_readsItem 128 = .ok (.invokestatic 116, 3) := by decide +kernel
theorem dX7_readsItem_131 : decode cX7_readsItem 131 = .ok (.istore_n 2, 1) := by decide +kernel
theorem dX7_readsItem_132 : decode cX7_readsItem 132 = .ok (.aload_n 0, 1) := by decide +kernel
theorem dX7_readsItem_133 : decode cX7_readsItem 133 = .ok (.getfield 13, 3) := by decide +kernel
theorem dX7_readsItem_136 : decode cX7_readsItem 136 = .ok (.bipush 6, 2) := by decide +kernel
theorem dX7_readsItem_138 : decode cX7_readsItem 138 = .ok (.iload_n 2, 1) := by decide +kernel
theorem dX7_readsItem_139 : decode cX7_readsItem 139 = .ok (.iadd, 1) := by decide +kernel
theorem dX7_readsItem_140 : decode cX7_readsItem 140 = .ok (.iload_n 2, 1) := by decide +kernel
theorem dX7_readsItem_141 : decode cX7_readsItem 141 = .ok (.iconst 2, 1) := by decide +kernel
theorem dX7_readsItem_142 : decode cX7_readsItem 142 = .ok (.if_icmp .ne 13, 3) := by decide +kernel
theorem dX7_readsItem_145 : decode cX7_readsItem 145 = .ok (.aload_n 0, 1) := by decide +kernel
theorem dX7_readsItem_146 : decode cX7_readsItem 146 = .ok (.iconst 3, 1) := by decide +kernel
theorem dX7_readsItem_147 : decode cX7_readsItem 147 = .ok (.bipush 15, 2) := by decide +kernel
theorem dX7_readsItem_149 : decode cX7_readsItem 149 = .ok (.invokevirtual 119, 3) := by decide +kernel
theorem dX7_readsItem_152 : decode cX7_readsItem 152 = .ok (.goto 25, 3) := by decide +kernel
theorem dX7_readsItem_155 : decode cX7_readsItem 155 = .ok (.iload_n 2, 1) := by decide +kernel
theorem dX7_readsItem_156 : decode cX7_readsItem 156 = .ok (.iconst 5, 1) := by decide +kernel
theorem dX7_readsItem_157 : decode cX7_readsItem 157 = .ok (.if_icmp .ne 13, 3) := by decide +kernel
theorem dX7_readsItem_160 : decode cX7_readsItem 160 = .ok (.aload_n 0, 1) := by decide +kernel
theorem dX7_readsItem_161 : decode cX7_readsItem 161 = .ok (.iconst 1, 1) := by decide +kernel
theorem dX7_readsItem_162 : decode cX7_readsItem 162 = .ok (.bipush 15, 2) := by decide +kernel
theorem dX7_readsItem_164 : decode cX7_readsItem 164 = .ok (.invokevirtual 119, 3) := by decide +kernel
theorem dX7_readsItem_167 : decode cX7_readsItem 167 = .ok (.goto 10, 3) := by decide +kernel
theorem dX7_readsItem_170 : decode cX7_readsItem 170 = .ok (.aload_n 0, 1) := by decide +kernel
theorem dX7_readsItem_171 : decode cX7_readsItem 171 = .ok (.iconst 1, 1) := by decide +kernel
theorem dX7_readsItem_172 : decode cX7_readsItem 172 = .ok (.bipush 20, 2) := by decide +kernel
theorem dX7_readsItem_174 : decode cX7_readsItem 174 = .ok (.invokevirtual 119, 3) := by decide +kernel
theorem dX7_readsItem_177 : decode cX7_readsItem 177 = .ok (.iastore, 1) := by decide +kernel
theorem dX7_readsItem_178 : decode cX7_readsItem 178 = .ok (.aload_n 0, 1) := by decide +kernel
theorem dX7_readsItem_179 : decode cX7_readsItem 179 = .ok (.dup, 1) := by decide +kernel
theorem dX7_readsItem_180 : decode cX7_readsItem 180 = .ok (.getfield 113, 3) := by decide +kernel
theorem dX7_readsItem_183 : decode cX7_readsItem 183 = .ok (.iconst 1, 1) := by decide +kernel
theorem dX7_readsItem_184 : decode cX7_readsItem 184 = .ok (.iload_n 2, 1) := by decide +kernel
theorem dX7_readsItem_185 : decode cX7_readsItem 185 = .ok (.ishl, 1) := by decide +kernel
theorem dX7_readsItem_186 : decode cX7_readsItem 186 = .ok (.ior, 1) := by decide +kernel
theorem dX7_readsItem_187 : decode cX7_readsItem 187 = .ok (.putfield 113, 3) := by decide +kernel
theorem dX7_readsItem_190 : decode cX7_readsItem 190 = .ok (.return_, 1) := by decide +kernel
theorem dX7_yard_0 : decode cX7_yard 0 = .ok (.aload_n 0, 1) := by decide +kernel
theorem dX7_yard_1 : decode cX7_yard 1 = .ok (.iconst 0, 1) := by decide +kernel
theorem dX7_yard_2 : decode cX7_yard 2 = .ok (.putfield 68, 3) := by decide +kernel
theorem dX7_yard_5 : decode cX7_yard 5 = .ok (.aload_n 0, 1) := by decide +kernel
theorem dX7_yard_6 : decode cX7_yard 6 = .ok (.iconst (-1), 1) := by decide +kernel
theorem dX7_yard_7 : decode cX7_yard 7 = .ok (.putfield 99, 3) := by decide +kernel
theorem dX7_yard_10 : decode cX7_yard 10 = .ok (.aload_n 0, 1) := by decide +kernel
theorem dX7_yard_11 : decode cX7_yard 11 = .ok (.iconst 0, 1) := by decide +kernel
theorem dX7_yard_12 : decode cX7_yard 12 = .ok (.putfield 79, 3) := by decide +kernel
theorem dX7_yard_15 : decode cX7_yard 15 = .ok (.aload_n 0, 1) := by decide +kernel
theorem dX7_yard_16 : decode cX7_yard 16 = .ok (.invokevirtual 62, 3) := by decide +kernel
theorem dX7_yard_19 : decode cX7_yard 19 = .ok (.iconst 0, 1) := by decide +kernel
theorem dX7_yard_20 : decode cX7_yard 20 = .ok (.istore_n 1, 1) := by decide +kernel
theorem dX7_yard_21 : decode cX7_yard 21 = .ok (.aload_n 0, 1) := by decide +kernel
theorem dX7_yard_22 : decode cX7_yard 22 = .ok (.invokevirtual 106, 3) := by decide +kernel
theorem dX7_yard_25 : decode cX7_yard 25 = .ok (.aload_n 0, 1) := by decide +kernel
theorem dX7_yard_26 : decode cX7_yard 26 = .ok (.invokevirtual 102, 3) := by decide +kernel
theorem dX7_yard_29 : decode cX7_yard 29 = .ok (.ifCond .eq 71, 3) := by decide +kernel
theorem dX7_yard_32 : decode cX7_yard 32 = .ok (.aload_n 0, 1) := by decide +kernel
theorem dX7_yard_33 : decode cX7_yard 33 = .ok (.getfield 89, 3) := by decide +kernel
theorem dX7_yard_36 : decode cX7_yard 36 = .ok (.ifCond .eq 64, 3) := by decide +kernel
theorem dX7_yard_39 : decode cX7_yard 39 = .ok (.aload_n 0, 1) := by decide +kernel
theorem dX7_yard_40 : decode cX7_yard 40 = .ok (.aload_n 0, 1) := by decide +kernel
theorem dX7_yard_41 : decode cX7_yard 41 = .ok (.getfield 89, 3) := by decide +kernel
theorem dX7_yard_44 : decode cX7_yard 44 = .ok (.iconst 1, 1) := by decide +kernel
theorem dX7_yard_45 : decode cX7_yard 45 = .ok (.if_icmp .ne 14, 3) := by decide +kernel
theorem dX7_yard_48 : decode cX7_yard 48 = .ok (.aload_n 0, 1) := by decide +kernel
theorem dX7_yard_49 : decode cX7_yard 49 = .ok (.invokevirtual 123, 3) := by decide +kernel
theorem dX7_yard_52 : decode cX7_yard 52 = .ok (.ifCond .eq 7, 3) := by decide +kernel
theorem dX7_yard_55 : decode cX7_yard 55 = .ok (.iconst 1, 1) := by decide +kernel
theorem dX7_yard_56 : decode cX7_yard 56 = .ok (.goto 4, 3) := by decide +kernel
theorem dX7_yard_59 : decode cX7_yard 59 = .ok (.iconst 0, 1) := by decide +kernel
theorem dX7_yard_60 : decode cX7_yard 60 = .ok (.invokevirtual 109, 3) := by decide +kernel
theorem dX7_yard_63 : decode cX7_yard 63 = .ok (.istore_n 2, 1) := by decide +kernel
theorem dX7_yard_64 : decode cX7_yard 64 = .ok (.aload_n 0, 1) := by decide +kernel
theorem dX7_yard_65 : decode cX7_yard 65 = .ok (.invokevirtual 102, 3) := by decide +kernel
theorem dX7_yard_68 : decode cX7_yard 68 = .ok (.ifCond .eq 8, 3) := by decide +kernel
theorem dX7_yard_71 : decode cX7_yard 71 = .ok (.aload_n 0, 1) := by decide +kernel
theorem dX7_yard_72 : decode cX7_yard 72 = .ok (.iload_n 2, 1) := by decide +kernel
theorem dX7_yard_73 : decode cX7_yard 73 = .ok (.invokevirtual 126, 3) := by decide +kernel
theorem dX7_yard_76 : decode cX7_yard 76 = .ok (.aload_n 0, 1) := by decide +kernel
theorem dX7_yard_77 : decode cX7_yard 77 = .ok (.aload_n 0, 1) := by decide +kernel
theorem dX7_yard_78 : decode cX7_yard 78 = .ok (.getfield 89, 3) := by decide +kernel
theorem dX7_yard_81 : decode cX7_yard 81 = .ok (.iconst 3, 1) := by decide +kernel
theorem dX7_yard_82 : decode cX7_yard 82 = .ok (.if_icmp .ne 7, 3) := by decide +kernel
theorem dX7_yard_85 : decode cX7_yard 85 = .ok (.iconst 1, 1) := by decide +kernel
theorem dX7_yard_86 : decode cX7_yard 86 = .ok (.goto 4, 3) := by decide +kernel
theorem dX7_yard_89 : decode cX7_yard 89 = .ok (.iconst 0, 1) := by decide +kernel
theorem dX7_yard_90 : decode cX7_yard 90 = .ok (.invokevirtual 109, 3) := by decide +kernel
theorem dX7_yard_93 : decode cX7_yard 93 = .ok (.pop, 1) := by decide +kernel
theorem dX7_yard_94 : decode cX7_yard 94 = .ok (.iinc 1 1, 3) := by decide +kernel
theorem dX7_yard_97 : decode cX7_yard 97 = .ok (.goto (-72), 3) := by decide +kernel
theorem dX7_yard_100 : decode cX7_yard 100 = .ok (.aload_n 0, 1) := by decide +kernel
theorem dX7_yard_101 : decode cX7_yard 101 = .ok (.invokevirtual 102, 3) := by decide +kernel
theorem dX7_yard_104 : decode cX7_yard 104 = .ok (.ifCond .ne 11, 3) := by decide +kernel
theorem dX7_yard_107 : decode cX7_yard 107 = .ok (.bipush (-10), 2) := by decide +kernel
theorem dX7_yard_109 : decode cX7_yard 109 = .ok (.aload_n 0, 1) := by decide +kernel
theorem dX7_yard_110 : decode cX7_yard 110 = .ok (.getfield 99, 3) := by decide +kernel
theorem dX7_yard_113 : decode cX7_yard 113 = .ok (.isub, 1) := by decide +kernel
theorem dX7_yard_114 : decode cX7_yard 114 = .ok (.ireturn, 1) := by decide +kernel
theorem dX7_yard_115 : decode cX7_yard 115 = .ok (.aload_n 0, 1) := by decide +kernel
theorem dX7_yard_116 : decode cX7_yard 116 = .ok (.invokevirtual 65, 3) := by decide +kernel
theorem dX7_yard_119 : decode cX7_yard 119 = .ok (.iload_n 1, 1) := by decide +kernel
theorem dX7_yard_120 : decode cX7_yard 120 = .ok (.ireturn, 1) := by decide +kernel
theorem dX7_settles_0 : decode cX7_settles 0 = .ok (.iconst 0, 1) := by decide +kernel
theorem dX7_settles_1 : decode cX7_settles 1 = .ok (.istore_n 1, 1) := by decide +kernel
theorem dX7_settles_2 : decode cX7_settles 2 = .ok (.iload_n 1, 1) := by decide +kernel
theorem dX7_settles_3 : decode cX7_settles 3 = .ok (.bipush 6, 2) := by decide +kernel
theorem dX7_settles_5 : decode cX7_settles 5 = .ok (.if_icmp .ge 24, 3) := by decide +kernel
theorem dX7_settles_8 : decode cX7_settles 8 = .ok (.aload_n 0, 1) := by decide +kernel
theorem dX7_settles_9 : decode cX7_settles 9 = .ok (.getfield 13, 3) := by decide +kernel
theorem dX7_settles_12 : decode cX7_settles 12 = .ok (.iload_n 1, 1) := by decide +kernel
theorem dX7_settles_13 : decode cX7_settles 13 = .ok (.aload_n 0, 1) := by decide +kernel
theorem dX7_settles_14 : decode cX7_settles 14 = .ok (.getfield 13, 3) := by decide +kernel
theorem dX7_settles_17 : decode cX7_settles 17 = .ok (.bipush 6, 2) := by decide +kernel
theorem dX7_settles_19 : decode cX7_settles 19 = .ok (.iload_n 1, 1) := by decide +kernel
theorem dX7_settles_20 : decode cX7_settles 20 = .ok (.iadd, 1) := by decide +kernel
theorem dX7_settles_21 : decode cX7_settles 21 = .ok (.iaload, 1) := by decide +kernel
theorem dX7_settles_22 : decode cX7_settles 22 = .ok (.iastore, 1) := by decide +kernel
theorem dX7_settles_23 : decode cX7_settles 23 = .ok (.iinc 1 1, 3) := by decide +kernel
theorem dX7_settles_26 : decode cX7_settles 26 = .ok (.goto (-24), 3) := by decide +kernel
theorem dX7_settles_29 : decode cX7_settles 29 = .ok (.iconst 0, 1) := by decide +kernel
theorem dX7_settles_30 : decode cX7_settles 30 = .ok (.istore_n 1, 1) := by decide +kernel
theorem dX7_settles_31 : decode cX7_settles 31 = .ok (.iload_n 1, 1) := by decide +kernel
theorem dX7_settles_32 : decode cX7_settles 32 = .ok (.bipush 21, 2) := by decide +kernel
theorem dX7_settles_34 : decode cX7_settles 34 = .ok (.if_icmp .ge 16, 3) := by decide +kernel
theorem dX7_settles_37 : decode cX7_settles 37 = .ok (.aload_n 0, 1) := by decide +kernel
theorem dX7_settles_38 : decode cX7_settles 38 = .ok (.getfield 31, 3) := by decide +kernel
theorem dX7_settles_41 : decode cX7_settles 41 = .ok (.iload_n 1, 1) := by decide +kernel
theorem dX7_settles_42 : decode cX7_settles 42 = .ok (.iconst 0, 1) := by decide +kernel
theorem dX7_settles_43 : decode cX7_settles 43 = .ok (.iastore, 1) := by decide +kernel
theorem dX7_settles_44 : decode cX7_settles 44 = .ok (.iinc 1 1, 3) := by decide +kernel
theorem dX7_settles_47 : decode cX7_settles 47 = .ok (.goto (-16), 3) := by decide +kernel
theorem dX7_settles_50 : decode cX7_settles 50 = .ok (.iconst 0, 1) := by decide +kernel
theorem dX7_settles_51 : decode cX7_settles 51 = .ok (.istore_n 1, 1) := by decide +kernel
theorem dX7_settles_52 : decode cX7_settles 52 = .ok (.iload_n 1, 1) := by decide +kernel
theorem dX7_settles_53 : decode cX7_settles 53 = .ok (.bipush 6, 2) := by decide +kernel
theorem dX7_settles_55 : decode cX7_settles 55 = .ok (.if_icmp .ge 98, 3) := by decide +kernel
theorem dX7_settles_58 : decode cX7_settles 58 = .ok (.aload_n 0, 1) := by decide +kernel
theorem dX7_settles_59 : decode cX7_settles 59 = .ok (.getfield 16, 3) := by decide +kernel
theorem dX7_settles_62 : decode cX7_settles 62 = .ok (.iload_n 1, 1) := by decide +kernel
theorem dX7_settles_63 : decode cX7_settles 63 = .ok (.aload_n 0, 1) := by decide +kernel
theorem dX7_settles_64 : decode cX7_settles 64 = .ok (.getfield 16, 3) := by decide +kernel
theorem dX7_settles_67 : decode cX7_settles 67 = .ok (.bipush 6, 2) := by decide +kernel
theorem dX7_settles_69 : decode cX7_settles 69 = .ok (.iload_n 1, 1) := by decide +kernel
theorem dX7_settles_70 : decode cX7_settles 70 = .ok (.iadd, 1) := by decide +kernel
theorem dX7_settles_71 : decode cX7_settles 71 = .ok (.iaload, 1) := by decide +kernel
theorem dX7_settles_72 : decode cX7_settles 72 = .ok (.iastore, 1) := by decide +kernel
theorem dX7_settles_73 : decode cX7_settles 73 = .ok (.aload_n 0, 1) := by decide +kernel
theorem dX7_settles_74 : decode cX7_settles 74 = .ok (.getfield 22, 3) := by decide +kernel
theorem dX7_settles_77 : decode cX7_settles 77 = .ok (.iload_n 1, 1) := by decide +kernel
theorem dX7_settles_78 : decode cX7_settles 78 = .ok (.aload_n 0, 1) := by decide +kernel
theorem dX7_settles_79 : decode cX7_settles 79 = .ok (.getfield 22, 3) := by decide +kernel
theorem dX7_settles_82 : decode cX7_settles 82 = .ok (.bipush 6, 2) := by decide +kernel
theorem dX7_settles_84 : decode cX7_settles 84 = .ok (.iload_n 1, 1) := by decide +kernel
theorem dX7_settles_85 : decode cX7_settles 85 = .ok (.iadd, 1) := by decide +kernel
theorem dX7_settles_86 : decode cX7_settles 86 = .ok (.iaload, 1) := by decide +kernel
theorem dX7_settles_87 : decode cX7_settles 87 = .ok (.iastore, 1) := by decide +kernel
theorem dX7_settles_88 : decode cX7_settles 88 = .ok (.aload_n 0, 1) := by decide +kernel
theorem dX7_settles_89 : decode cX7_settles 89 = .ok (.getfield 25, 3) := by decide +kernel
theorem dX7_settles_92 : decode cX7_settles 92 = .ok (.iload_n 1, 1) := by decide +kernel
theorem dX7_settles_93 : decode cX7_settles 93 = .ok (.aload_n 0, 1) := by decide +kernel
theorem dX7_settles_94 : decode cX7_settles 94 = .ok (.getfield 25, 3) := by decide +kernel
theorem dX7_settles_97 : decode cX7_settles 97 = .ok (.bipush 6, 2) := by decide +kernel
theorem dX7_settles_99 : decode cX7_settles 99 = .ok (.iload_n 1, 1) := by decide +kernel
theorem dX7_settles_100 : decode cX7_settles 100 = .ok (.iadd, 1) := by decide +kernel
theorem dX7_settles_101 : decode cX7_settles 101 = .ok (.iaload, 1) := by decide +kernel
theorem dX7_settles_102 : decode cX7_settles 102 = .ok (.iastore, 1) := by decide +kernel
theorem dX7_settles_103 : decode cX7_settles 103 = .ok (.aload_n 0, 1) := by decide +kernel
theorem dX7_settles_104 : decode cX7_settles 104 = .ok (.getfield 28, 3) := by decide +kernel
theorem dX7_settles_107 : decode cX7_settles 107 = .ok (.iload_n 1, 1) := by decide +kernel
theorem dX7_settles_108 : decode cX7_settles 108 = .ok (.aload_n 0, 1) := by decide +kernel
theorem dX7_settles_109 : decode cX7_settles 109 = .ok (.getfield 28, 3) := by decide +kernel
theorem dX7_settles_112 : decode cX7_settles 112 = .ok (.bipush 6, 2) := by decide +kernel
theorem dX7_settles_114 : decode cX7_settles 114 = .ok (.iload_n 1, 1) := by decide +kernel
theorem dX7_settles_115 : decode cX7_settles 115 = .ok (.iadd, 1) := by decide +kernel
theorem dX7_settles_116 : decode cX7_settles 116 = .ok (.iaload, 1) := by decide +kernel
theorem dX7_settles_117 : decode cX7_settles 117 = .ok (.iastore, 1) := by decide +kernel
theorem dX7_settles_118 : decode cX7_settles 118 = .ok (.aload_n 0, 1) := by decide +kernel
theorem dX7_settles_119 : decode cX7_settles 119 = .ok (.getfield 31, 3) := by decide +kernel
theorem dX7_settles_122 : decode cX7_settles 122 = .ok (.bipush 15, 2) := by decide +kernel
theorem dX7_settles_124 : decode cX7_settles 124 = .ok (.iload_n 1, 1) := by decide +kernel
theorem dX7_settles_125 : decode cX7_settles 125 = .ok (.iadd, 1) := by decide +kernel
theorem dX7_settles_126 : decode cX7_settles 126 = .ok (.iload_n 1, 1) := by decide +kernel
theorem dX7_settles_127 : decode cX7_settles 127 = .ok (.aload_n 0, 1) := by decide +kernel
theorem dX7_settles_128 : decode cX7_settles 128 = .ok (.getfield 13, 3) := by decide +kernel
theorem dX7_settles_131 : decode cX7_settles 131 = .ok (.iconst 0, 1) := by decide +kernel
theorem dX7_settles_132 : decode cX7_settles 132 = .ok (.iaload, 1) := by decide +kernel
theorem dX7_settles_133 : decode cX7_settles 133 = .ok (.if_icmp .ge 12, 3) := by decide +kernel
theorem dX7_settles_136 : decode cX7_settles 136 = .ok (.aload_n 0, 1) := by decide +kernel
theorem dX7_settles_137 : decode cX7_settles 137 = .ok (.getfield 19, 3) := by decide +kernel
theorem dX7_settles_140 : decode cX7_settles 140 = .ok (.iload_n 1, 1) := by decide +kernel
theorem dX7_settles_141 : decode cX7_settles 141 = .ok (.iaload, 1) := by decide +kernel
theorem dX7_settles_142 : decode cX7_settles 142 = .ok (.goto 4, 3) := by decide +kernel
theorem dX7_settles_145 : decode cX7_settles 145 = .ok (.iconst 0, 1) := by decide +kernel
theorem dX7_settles_146 : decode cX7_settles 146 = .ok (.iastore, 1) := by decide +kernel
theorem dX7_settles_147 : decode cX7_settles 147 = .ok (.iinc 1 1, 3) := by decide +kernel
theorem dX7_settles_150 : decode cX7_settles 150 = .ok (.goto (-98), 3) := by decide +kernel
theorem dX7_settles_153 : decode cX7_settles 153 = .ok (.iconst 0, 1) := by decide +kernel
theorem dX7_settles_154 : decode cX7_settles 154 = .ok (.istore_n 1, 1) := by decide +kernel
theorem dX7_settles_155 : decode cX7_settles 155 = .ok (.iload_n 1, 1) := by decide +kernel
theorem dX7_settles_156 : decode cX7_settles 156 = .ok (.bipush 8, 2) := by decide +kernel
theorem dX7_settles_158 : decode cX7_settles 158 = .ok (.if_icmp .ge 24, 3) := by decide +kernel
theorem dX7_settles_161 : decode cX7_settles 161 = .ok (.aload_n 0, 1) := by decide +kernel
theorem dX7_settles_162 : decode cX7_settles 162 = .ok (.getfield 31, 3) := by decide +kernel
theorem dX7_settles_165 : decode cX7_settles 165 = .ok (.bipush 7, 2) := by decide +kernel
theorem dX7_settles_167 : decode cX7_settles 167 = .ok (.iload_n 1, 1) := by decide +kernel
theorem dX7_settles_168 : decode cX7_settles 168 = .ok (.iadd, 1) := by decide +kernel
theorem dX7_settles_169 : decode cX7_settles 169 = .ok (.aload_n 0, 1) := by decide +kernel
theorem dX7_settles_170 : decode cX7_settles 170 = .ok (.getfield 13, 3) := by decide +kernel
theorem dX7_settles_173 : decode cX7_settles 173 = .ok (.iconst 5, 1) := by decide +kernel
theorem dX7_settles_174 : decode cX7_settles 174 = .ok (.iaload, 1) := by decide +kernel
theorem dX7_settles_175 : decode cX7_settles 175 = .ok (.iastore, 1) := by decide +kernel
theorem dX7_settles_176 : decode cX7_settles 176 = .ok (.iinc 1 1, 3) := by decide +kernel
theorem dX7_settles_179 : decode cX7_settles 179 = .ok (.goto (-24), 3) := by decide +kernel
theorem dX7_settles_182 : decode cX7_settles 182 = .ok (.aload_n 0, 1) := by decide +kernel
theorem dX7_settles_183 : decode cX7_settles 183 = .ok (.iconst 0, 1) := by decide +kernel
theorem dX7_settles_184 : decode cX7_settles 184 = .ok (.putfield 76, 3) := by decide +kernel
theorem dX7_settles_187 : decode cX7_settles 187 = .ok (.aload_n 0, 1) := by decide +kernel
theorem dX7_settles_188 : decode cX7_settles 188 = .ok (.iconst 0, 1) := by decide +kernel
theorem dX7_settles_189 : decode cX7_settles 189 = .ok (.putfield 130, 3) := by decide +kernel
theorem dX7_settles_192 : decode cX7_settles 192 = .ok (.aload_n 0, 1) := by decide +kernel
theorem dX7_settles_193 : decode cX7_settles 193 = .ok (.iconst 0, 1) := by decide +kernel
theorem dX7_settles_194 : decode cX7_settles 194 = .ok (.putfield 133, 3) := by decide +kernel
theorem dX7_settles_197 : decode cX7_settles 197 = .ok (.aload_n 0, 1) := by decide +kernel
theorem dX7_settles_198 : decode cX7_settles 198 = .ok (.getfield 40, 3) := by decide +kernel
theorem dX7_settles_201 : decode cX7_settles 201 = .ok (.iconst 0, 1) := by decide +kernel
theorem dX7_settles_202 : decode cX7_settles 202 = .ok (.iconst 0, 1) := by decide +kernel
theorem dX7_settles_203 : decode cX7_settles 203 = .ok (.bastore, 1) := by decide +kernel
theorem dX7_settles_204 : decode cX7_settles 204 = .ok (.aload_n 0, 1) := by decide +kernel
theorem dX7_settles_205 : decode cX7_settles 205 = .ok (.getfield 40, 3) := by decide +kernel
theorem dX7_settles_208 : decode cX7_settles 208 = .ok (.iconst 1, 1) := by decide +kernel
theorem dX7_settles_209 : decode cX7_settles 209 = .ok (.iconst 0, 1) := by decide +kernel
theorem dX7_settles_210 : decode cX7_settles 210 = .ok (.bastore, 1) := by decide +kernel
theorem dX7_settles_211 : decode cX7_settles 211 = .ok (.return_, 1) := by decide +kernel
theorem dX7_isPart_0 : decode cX7_isPart 0 = .ok (.iload_n 1, 1) := by decide +kernel
theorem dX7_isPart_1 : decode cX7_isPart 1 = .ok (.iconst 0, 1) := by decide +kernel
theorem dX7_isPart_2 : decode cX7_isPart 2 = .ok (.aload_n 0, 1) := by decide +kernel
theorem dX7_isPart_3 : decode cX7_isPart 3 = .ok (.getfield 13, 3) := by decide +kernel
theorem dX7_isPart_6 : decode cX7_isPart 6 = .ok (.iconst 0, 1) := by decide +kernel
theorem dX7_isPart_7 : decode cX7_isPart 7 = .ok (.iaload, 1) := by decide +kernel
theorem dX7_isPart_8 : decode cX7_isPart 8 = .ok (.iconst 1, 1) := by decide +kernel
theorem dX7_isPart_9 : decode cX7_isPart 9 = .ok (.isub, 1) := by decide +kernel
theorem dX7_isPart_10 : decode cX7_isPart 10 = .ok (.invokestatic 72, 3) := by decide +kernel
theorem dX7_isPart_13 : decode cX7_isPart 13 = .ok (.ireturn, 1) := by decide +kernel
theorem dX7_isOrder_0 : decode cX7_isOrder 0 = .ok (.iload_n 1, 1) := by decide +kernel
theorem dX7_isOrder_1 : decode cX7_isOrder 1 = .ok (.iconst 0, 1) := by decide +kernel
theorem dX7_isOrder_2 : decode cX7_isOrder 2 = .ok (.aload_n 0, 1) := by decide +kernel
theorem dX7_isOrder_3 : decode cX7_isOrder 3 = .ok (.getfield 13, 3) := by decide +kernel
theorem dX7_isOrder_6 : decode cX7_isOrder 6 = .ok (.iconst 1, 1) := by decide +kernel
theorem dX7_isOrder_7 : decode cX7_isOrder 7 = .ok (.iaload, 1) := by decide +kernel
theorem dX7_isOrder_8 : decode cX7_isOrder 8 = .ok (.iconst 1, 1) := by decide +kernel
theorem dX7_isOrder_9 : decode cX7_isOrder 9 = .ok (.isub, 1) := by decide +kernel
theorem dX7_isOrder_10 : decode cX7_isOrder 10 = .ok (.invokestatic 72, 3) := by decide +kernel
theorem dX7_isOrder_13 : decode cX7_isOrder 13 = .ok (.ireturn, 1) := by decide +kernel
theorem dX7_givesAt_0 : decode cX7_givesAt 0 = .ok (.iload_n 2, 1) := by decide +kernel
theorem dX7_givesAt_1 : decode cX7_givesAt 1 = .ok (.aload_n 0, 1) := by decide +kernel
theorem dX7_givesAt_2 : decode cX7_givesAt 2 = .ok (.getfield 13, 3) := by decide +kernel
theorem dX7_givesAt_5 : decode cX7_givesAt 5 = .ok (.iconst 2, 1) := by decide +kernel
theorem dX7_givesAt_6 : decode cX7_givesAt 6 = .ok (.iaload, 1) := by decide +kernel
theorem dX7_givesAt_7 : decode cX7_givesAt 7 = .ok (.if_icmp .gt 9, 3) := by decide +kernel
theorem dX7_givesAt_10 : decode cX7_givesAt 10 = .ok (.iload_n 2, 1) := by decide +kernel
theorem dX7_givesAt_11 : decode cX7_givesAt 11 = .ok (.iconst 2, 1) := by decide +kernel
theorem dX7_givesAt_12 : decode cX7_givesAt 12 = .ok (.isub, 1) := by decide +kernel
theorem dX7_givesAt_13 : decode cX7_givesAt 13 = .ok (.goto 15, 3) := by decide +kernel
theorem dX7_givesAt_16 : decode cX7_givesAt 16 = .ok (.iconst 2, 1) := by decide +kernel
theorem dX7_givesAt_17 : decode cX7_givesAt 17 = .ok (.aload_n 0, 1) := by decide +kernel
theorem dX7_givesAt_18 : decode cX7_givesAt 18 = .ok (.getfield 13, 3) := by decide +kernel
theorem dX7_givesAt_21 : decode cX7_givesAt 21 = .ok (.iconst 2, 1) := by decide +kernel
theorem dX7_givesAt_22 : decode cX7_givesAt 22 = .ok (.iaload, 1) := by decide +kernel
theorem dX7_givesAt_23 : decode cX7_givesAt 23 = .ok (.imul, 1) := by decide +kernel
theorem dX7_givesAt_24 : decode cX7_givesAt 24 = .ok (.iconst 2, 1) := by decide +kernel
theorem dX7_givesAt_25 : decode cX7_givesAt 25 = .ok (.isub, 1) := by decide +kernel
theorem dX7_givesAt_26 : decode cX7_givesAt 26 = .ok (.iload_n 2, 1) := by decide +kernel
theorem dX7_givesAt_27 : decode cX7_givesAt 27 = .ok (.isub, 1) := by decide +kernel
theorem dX7_givesAt_28 : decode cX7_givesAt 28 = .ok (.istore_n 3, 1) := by decide +kernel
theorem dX7_givesAt_29 : decode cX7_givesAt 29 = .ok (.iload_n 3, 1) := by decide +kernel
theorem dX7_givesAt_30 : decode cX7_givesAt 30 = .ok (.ifCond .ge 7, 3) := by decide +kernel
theorem dX7_givesAt_33 : decode cX7_givesAt 33 = .ok (.iconst 0, 1) := by decide +kernel
theorem dX7_givesAt_34 : decode cX7_givesAt 34 = .ok (.goto 6, 3) := by decide +kernel
theorem dX7_givesAt_37 : decode cX7_givesAt 37 = .ok (.iload_n 1, 1) := by decide +kernel
theorem dX7_givesAt_38 : decode cX7_givesAt 38 = .ok (.iload_n 3, 1) := by decide +kernel
theorem dX7_givesAt_39 : decode cX7_givesAt 39 = .ok (.imul, 1) := by decide +kernel
theorem dX7_givesAt_40 : decode cX7_givesAt 40 = .ok (.ireturn, 1) := by decide +kernel
theorem dX7_gives_0 : decode cX7_gives 0 = .ok (.aload_n 0, 1) := by decide +kernel
theorem dX7_gives_1 : decode cX7_gives 1 = .ok (.aload_n 0, 1) := by decide +kernel
theorem dX7_gives_2 : decode cX7_gives 2 = .ok (.getfield 16, 3) := by decide +kernel
theorem dX7_gives_5 : decode cX7_gives 5 = .ok (.iload_n 2, 1) := by decide +kernel
theorem dX7_gives_6 : decode cX7_gives 6 = .ok (.iaload, 1) := by decide +kernel
theorem dX7_gives_7 : decode cX7_gives 7 = .ok (.aload_n 1, 1) := by decide +kernel
theorem dX7_gives_8 : decode cX7_gives 8 = .ok (.bipush 15, 2) := by decide +kernel
theorem dX7_gives_10 : decode cX7_gives 10 = .ok (.iload_n 2, 1) := by decide +kernel
theorem dX7_gives_11 : decode cX7_gives 11 = .ok (.iadd, 1) := by decide +kernel
theorem dX7_gives_12 : decode cX7_gives 12 = .ok (.iaload, 1) := by decide +kernel
theorem dX7_gives_13 : decode cX7_gives 13 = .ok (.invokevirtual 136, 3) := by decide +kernel
theorem dX7_gives_16 : decode cX7_gives 16 = .ok (.ireturn, 1) := by decide +kernel
theorem dX7_isSent_0 : decode cX7_isSent 0 = .ok (.aload_n 0, 1) := by decide +kernel
theorem dX7_isSent_1 : decode cX7_isSent 1 = .ok (.getfield 31, 3) := by decide +kernel
theorem dX7_isSent_4 : decode cX7_isSent 4 = .ok (.iconst 5, 1) := by decide +kernel
theorem dX7_isSent_5 : decode cX7_isSent 5 = .ok (.iaload, 1) := by decide +kernel
theorem dX7_isSent_6 : decode cX7_isSent 6 = .ok (.iload_n 1, 1) := by decide +kernel
theorem dX7_isSent_7 : decode cX7_isSent 7 = .ok (.ishr, 1) := by decide +kernel
theorem dX7_isSent_8 : decode cX7_isSent 8 = .ok (.iconst 1, 1) := by decide +kernel
theorem dX7_isSent_9 : decode cX7_isSent 9 = .ok (.iand, 1) := by decide +kernel
theorem dX7_isSent_10 : decode cX7_isSent 10 = .ok (.iconst 1, 1) := by decide +kernel
theorem dX7_isSent_11 : decode cX7_isSent 11 = .ok (.if_icmp .ne 7, 3) := by decide +kernel
theorem dX7_isSent_14 : decode cX7_isSent 14 = .ok (.iconst 1, 1) := by decide +kernel
theorem dX7_isSent_15 : decode cX7_isSent 15 = .ok (.goto 4, 3) := by decide +kernel
theorem dX7_isSent_18 : decode cX7_isSent 18 = .ok (.iconst 0, 1) := by decide +kernel
theorem dX7_isSent_19 : decode cX7_isSent 19 = .ok (.ireturn, 1) := by decide +kernel
theorem dX7_part_0 : decode cX7_part 0 = .ok (.aload_n 0, 1) := by decide +kernel
theorem dX7_part_1 : decode cX7_part 1 = .ok (.iconst 0, 1) := by decide +kernel
theorem dX7_part_2 : decode cX7_part 2 = .ok (.putfield 68, 3) := by decide +kernel
theorem dX7_part_5 : decode cX7_part 5 = .ok (.aload_n 0, 1) := by decide +kernel
theorem dX7_part_6 : decode cX7_part 6 = .ok (.iload_n 1, 1) := by decide +kernel
theorem dX7_part_7 : decode cX7_part 7 = .ok (.invokevirtual 139, 3) := by decide +kernel
theorem dX7_part_10 : decode cX7_part 10 = .ok (.ifCond .eq 12, 3) := by decide +kernel
theorem dX7_part_13 : decode cX7_part 13 = .ok (.iload_n 2, 1) := by decide +kernel
theorem dX7_part_14 : decode cX7_part 14 = .ok (.iconst 0, 1) := by decide +kernel
theorem dX7_part_15 : decode cX7_part 15 = .ok (.iconst 2, 1) := by decide +kernel
theorem dX7_part_16 : decode cX7_part 16 = .ok (.invokestatic 72, 3) := by decide +kernel
theorem dX7_part_19 : decode cX7_part 19 = .ok (.ifCond .ne 5, 3) := by decide +kernel
theorem dX7_part_22 : decode cX7_part 22 = .ok (.iconst (-1), 1) := by decide +kernel
theorem dX7_part_23 : decode cX7_part 23 = .ok (.ireturn, 1) := by decide +kernel
theorem dX7_part_24 : decode cX7_part 24 = .ok (.iload_n 2, 1) := by decide +kernel
theorem dX7_part_25 : decode cX7_part 25 = .ok (.ifCond .ne 12, 3) := by decide +kernel
theorem dX7_part_28 : decode cX7_part 28 = .ok (.aload_n 0, 1) := by decide +kernel
theorem dX7_part_29 : decode cX7_part 29 = .ok (.getfield 16, 3) := by decide +kernel
theorem dX7_part_32 : decode cX7_part 32 = .ok (.iload_n 1, 1) := by decide +kernel
theorem dX7_part_33 : decode cX7_part 33 = .ok (.iaload, 1) := by decide +kernel
theorem dX7_part_34 : decode cX7_part 34 = .ok (.goto 29, 3) := by decide +kernel
theorem dX7_part_37 : decode cX7_part 37 = .ok (.iload_n 2, 1) := by decide +kernel
theorem dX7_part_38 : decode cX7_part 38 = .ok (.iconst 1, 1) := by decide +kernel
theorem dX7_part_39 : decode cX7_part 39 = .ok (.if_icmp .ne 15, 3) := by decide +kernel
theorem dX7_part_42 : decode cX7_part 42 = .ok (.aload_n 0, 1) := by decide +kernel
theorem dX7_part_43 : decode cX7_part 43 = .ok (.getfield 31, 3) := by decide +kernel
theorem dX7_part_46 : decode cX7_part 46 = .ok (.bipush 15, 2) := by decide +kernel
theorem dX7_part_48 : decode cX7_part 48 = .ok (.iload_n 1, 1) := by decide +kernel
theorem dX7_part_49 : decode cX7_part 49 = .ok (.iadd, 1) := by decide +kernel
theorem dX7_part_50 : decode cX7_part 50 = .ok (.iaload, 1) := by decide +kernel
theorem dX7_part_51 : decode cX7_part 51 = .ok (.goto 12, 3) := by decide +kernel
theorem dX7_part_54 : decode cX7_part 54 = .ok (.aload_n 0, 1) := by decide +kernel
theorem dX7_part_55 : decode cX7_part 55 = .ok (.aload_n 0, 1) := by decide +kernel
theorem dX7_part_56 : decode cX7_part 56 = .ok (.getfield 31, 3) := by decide +kernel
theorem dX7_part_59 : decode cX7_part 59 = .ok (.iload_n 1, 1) := by decide +kernel
theorem dX7_part_60 : decode cX7_part 60 = .ok (.invokevirtual 142, 3) := by decide +kernel
theorem dX7_part_63 : decode cX7_part 63 = .ok (.ireturn, 1) := by decide +kernel
theorem dX7_order_0 : decode cX7_order 0 = .ok (.aload_n 0, 1) := by decide +kernel
theorem dX7_order_1 : decode cX7_order 1 = .ok (.iconst 0, 1) := by decide +kernel
theorem dX7_order_2 : decode cX7_order 2 = .ok (.putfield 68, 3) := by decide +kernel
theorem dX7_order_5 : decode cX7_order 5 = .ok (.aload_n 0, 1) := by decide +kernel
theorem dX7_order_6 : decode cX7_order 6 = .ok (.iload_n 1, 1) := by decide +kernel
theorem dX7_order_7 : decode cX7_order 7 = .ok (.invokevirtual 146, 3) := by decide +kernel
theorem dX7_order_10 : decode cX7_order 10 = .ok (.ifCond .eq 12, 3) := by decide +kernel
theorem dX7_order_13 : decode cX7_order 13 = .ok (.iload_n 2, 1) := by decide +kernel
theorem dX7_order_14 : decode cX7_order 14 = .ok (.iconst 0, 1) := by decide +kernel
theorem dX7_order_15 : decode cX7_order 15 = .ok (.iconst 3, 1) := by decide +kernel
theorem dX7_order_16 : decode cX7_order 16 = .ok (.invokestatic 72, 3) := by decide +kernel
theorem dX7_order_19 : decode cX7_order 19 = .ok (.ifCond .ne 5, 3) := by decide +kernel
theorem dX7_order_22 : decode cX7_order 22 = .ok (.iconst (-1), 1) := by decide +kernel
theorem dX7_order_23 : decode cX7_order 23 = .ok (.ireturn, 1) := by decide +kernel
theorem dX7_order_24 : decode cX7_order 24 = .ok (.iload_n 2, 1) := by decide +kernel
theorem dX7_order_25 : decode cX7_order 25 = .ok (.ifCond .ne 12, 3) := by decide +kernel
theorem dX7_order_28 : decode cX7_order 28 = .ok (.aload_n 0, 1) := by decide +kernel
theorem dX7_order_29 : decode cX7_order 29 = .ok (.getfield 22, 3) := by decide +kernel
theorem dX7_order_32 : decode cX7_order 32 = .ok (.iload_n 1, 1) := by decide +kernel
theorem dX7_order_33 : decode cX7_order 33 = .ok (.iaload, 1) := by decide +kernel
theorem dX7_order_34 : decode cX7_order 34 = .ok (.goto 44, 3) := by decide +kernel
theorem dX7_order_37 : decode cX7_order 37 = .ok (.iload_n 2, 1) := by decide +kernel
theorem dX7_order_38 : decode cX7_order 38 = .ok (.iconst 1, 1) := by decide +kernel
theorem dX7_order_39 : decode cX7_order 39 = .ok (.if_icmp .ne 12, 3) := by decide +kernel
theorem dX7_order_42 : decode cX7_order 42 = .ok (.aload_n 0, 1) := by decide +kernel
theorem dX7_order_43 : decode cX7_order 43 = .ok (.getfield 25, 3) := by decide +kernel
theorem dX7_order_46 : decode cX7_order 46 = .ok (.iload_n 1, 1) := by decide +kernel
theorem dX7_order_47 : decode cX7_order 47 = .ok (.iaload, 1) := by decide +kernel
theorem dX7_order_48 : decode cX7_order 48 = .ok (.goto 30, 3) := by decide +kernel
theorem dX7_order_51 : decode cX7_order 51 = .ok (.iload_n 2, 1) := by decide +kernel
theorem dX7_order_52 : decode cX7_order 52 = .ok (.iconst 2, 1) := by decide +kernel
theorem dX7_order_53 : decode cX7_order 53 = .ok (.if_icmp .ne 12, 3) := by decide +kernel
theorem dX7_order_56 : decode cX7_order 56 = .ok (.aload_n 0, 1) := by decide +kernel
theorem dX7_order_57 : decode cX7_order 57 = .ok (.getfield 28, 3) := by decide +kernel
theorem dX7_order_60 : decode cX7_order 60 = .ok (.iload_n 1, 1) := by decide +kernel
theorem dX7_order_61 : decode cX7_order 61 = .ok (.iaload, 1) := by decide +kernel
theorem dX7_order_62 : decode cX7_order 62 = .ok (.goto 16, 3) := by decide +kernel
theorem dX7_order_65 : decode cX7_order 65 = .ok (.aload_n 0, 1) := by decide +kernel
theorem dX7_order_66 : decode cX7_order 66 = .ok (.iload_n 1, 1) := by decide +kernel
theorem dX7_order_67 : decode cX7_order 67 = .ok (.invokevirtual 149, 3) := by decide +kernel
theorem dX7_order_70 : decode cX7_order 70 = .ok (.ifCond .eq 7, 3) := by decide +kernel
theorem dX7_order_73 : decode cX7_order 73 = .ok (.iconst 1, 1) := by decide +kernel
theorem dX7_order_74 : decode cX7_order 74 = .ok (.goto 4, 3) := by decide +kernel
theorem dX7_order_77 : decode cX7_order 77 = .ok (.iconst 0, 1) := by decide +kernel
theorem dX7_order_78 : decode cX7_order 78 = .ok (.ireturn, 1) := by decide +kernel
theorem dX7_side_0 : decode cX7_side 0 = .ok (.aload_n 0, 1) := by decide +kernel
theorem dX7_side_1 : decode cX7_side 1 = .ok (.iconst 0, 1) := by decide +kernel
theorem dX7_side_2 : decode cX7_side 2 = .ok (.putfield 68, 3) := by decide +kernel
theorem dX7_side_5 : decode cX7_side 5 = .ok (.iload_n 1, 1) := by decide +kernel
theorem dX7_side_6 : decode cX7_side 6 = .ok (.iconst 0, 1) := by decide +kernel
theorem dX7_side_7 : decode cX7_side 7 = .ok (.bipush 7, 2) := by decide +kernel
theorem dX7_side_9 : decode cX7_side 9 = .ok (.invokestatic 72, 3) := by decide +kernel
theorem dX7_side_12 : decode cX7_side 12 = .ok (.ifCond .eq 15, 3) := by decide +kernel
theorem dX7_side_15 : decode cX7_side 15 = .ok (.aload_n 0, 1) := by decide +kernel
theorem dX7_side_16 : decode cX7_side 16 = .ok (.getfield 31, 3) := by decide +kernel
theorem dX7_side_19 : decode cX7_side 19 = .ok (.bipush 7, 2) := by decide +kernel
theorem dX7_side_21 : decode cX7_side 21 = .ok (.iload_n 1, 1) := by decide +kernel
theorem dX7_side_22 : decode cX7_side 22 = .ok (.iadd, 1) := by decide +kernel
theorem dX7_side_23 : decode cX7_side 23 = .ok (.iaload, 1) := by decide +kernel
theorem dX7_side_24 : decode cX7_side 24 = .ok (.goto 4, 3) := by decide +kernel
theorem dX7_side_27 : decode cX7_side 27 = .ok (.iconst (-1), 1) := by decide +kernel
theorem dX7_side_28 : decode cX7_side 28 = .ok (.ireturn, 1) := by decide +kernel
theorem dX7_now_0 : decode cX7_now 0 = .ok (.aload_n 0, 1) := by decide +kernel
theorem dX7_now_1 : decode cX7_now 1 = .ok (.iconst 0, 1) := by decide +kernel
theorem dX7_now_2 : decode cX7_now 2 = .ok (.putfield 68, 3) := by decide +kernel
theorem dX7_now_5 : decode cX7_now 5 = .ok (.iload_n 1, 1) := by decide +kernel
theorem dX7_now_6 : decode cX7_now 6 = .ok (.iconst 0, 1) := by decide +kernel
theorem dX7_now_7 : decode cX7_now 7 = .ok (.bipush 6, 2) := by decide +kernel
theorem dX7_now_9 : decode cX7_now 9 = .ok (.invokestatic 72, 3) := by decide +kernel
theorem dX7_now_12 : decode cX7_now 12 = .ok (.ifCond .eq 12, 3) := by decide +kernel
theorem dX7_now_15 : decode cX7_now 15 = .ok (.aload_n 0, 1) := by decide +kernel
theorem dX7_now_16 : decode cX7_now 16 = .ok (.getfield 31, 3) := by decide +kernel
theorem dX7_now_19 : decode cX7_now 19 = .ok (.iload_n 1, 1) := by decide +kernel
theorem dX7_now_20 : decode cX7_now 20 = .ok (.iaload, 1) := by decide +kernel
theorem dX7_now_21 : decode cX7_now 21 = .ok (.goto 17, 3) := by decide +kernel
theorem dX7_now_24 : decode cX7_now 24 = .ok (.iload_n 1, 1) := by decide +kernel
theorem dX7_now_25 : decode cX7_now 25 = .ok (.bipush 7, 2) := by decide +kernel
theorem dX7_now_27 : decode cX7_now 27 = .ok (.if_icmp .ne 10, 3) := by decide +kernel
theorem dX7_now_30 : decode cX7_now 30 = .ok (.aload_n 0, 1) := by decide +kernel
theorem dX7_now_31 : decode cX7_now 31 = .ok (.getfield 133, 3) := by decide +kernel
theorem dX7_now_34 : decode cX7_now 34 = .ok (.goto 4, 3) := by decide +kernel
theorem dX7_now_37 : decode cX7_now 37 = .ok (.iconst (-1), 1) := by decide +kernel
theorem dX7_now_38 : decode cX7_now 38 = .ok (.ireturn, 1) := by decide +kernel
theorem dX7_notes_0 : decode cX7_notes 0 = .ok (.aload_n 0, 1) := by decide +kernel
theorem dX7_notes_1 : decode cX7_notes 1 = .ok (.getfield 133, 3) := by decide +kernel
theorem dX7_notes_4 : decode cX7_notes 4 = .ok (.bipush 10, 2) := by decide +kernel
theorem dX7_notes_6 : decode cX7_notes 6 = .ok (.if_icmp .ne 39, 3) := by decide +kernel
theorem dX7_notes_9 : decode cX7_notes 9 = .ok (.iconst 0, 1) := by decide +kernel
theorem dX7_notes_10 : decode cX7_notes 10 = .ok (.istore_n 1, 1) := by decide +kernel
theorem dX7_notes_11 : decode cX7_notes 11 = .ok (.iload_n 1, 1) := by decide +kernel
theorem dX7_notes_12 : decode cX7_notes 12 = .ok (.sipush 189, 3) := by decide +kernel
theorem dX7_notes_15 : decode cX7_notes 15 = .ok (.if_icmp .ge 24, 3) := by decide +kernel
theorem dX7_notes_18 : decode cX7_notes 18 = .ok (.aload_n 0, 1) := by decide +kernel
theorem dX7_notes_19 : decode cX7_notes 19 = .ok (.getfield 44, 3) := by decide +kernel
theorem dX7_notes_22 : decode cX7_notes 22 = .ok (.iload_n 1, 1) := by decide +kernel
theorem dX7_notes_23 : decode cX7_notes 23 = .ok (.aload_n 0, 1) := by decide +kernel
theorem dX7_notes_24 : decode cX7_notes 24 = .ok (.getfield 44, 3) := by decide +kernel
theorem dX7_notes_27 : decode cX7_notes 27 = .ok (.iload_n 1, 1) := by decide +kernel
theorem dX7_notes_28 : decode cX7_notes 28 = .ok (.bipush 21, 2) := by decide +kernel
theorem dX7_notes_30 : decode cX7_notes 30 = .ok (.iadd, 1) := by decide +kernel
theorem dX7_notes_31 : decode cX7_notes 31 = .ok (.iaload, 1) := by decide +kernel
theorem dX7_notes_32 : decode cX7_notes 32 = .ok (.iastore, 1) := by decide +kernel
theorem dX7_notes_33 : decode cX7_notes 33 = .ok (.iinc 1 1, 3) := by decide +kernel
theorem dX7_notes_36 : decode cX7_notes 36 = .ok (.goto (-25), 3) := by decide +kernel
theorem dX7_notes_39 : decode cX7_notes 39 = .ok (.aload_n 0, 1) := by decide +kernel
theorem dX7_notes_40 : decode cX7_notes 40 = .ok (.bipush 9, 2) := by decide +kernel
theorem dX7_notes_42 : decode cX7_notes 42 = .ok (.putfield 133, 3) := by decide +kernel
theorem dX7_notes_45 : decode cX7_notes 45 = .ok (.iconst 0, 1) := by decide +kernel
theorem dX7_notes_46 : decode cX7_notes 46 = .ok (.istore_n 1, 1) := by decide +kernel
theorem dX7_notes_47 : decode cX7_notes 47 = .ok (.iload_n 1, 1) := by decide +kernel
theorem dX7_notes_48 : decode cX7_notes 48 = .ok (.bipush 21, 2) := by decide +kernel
theorem dX7_notes_50 : decode cX7_notes 50 = .ok (.if_icmp .ge 29, 3) := by decide +kernel
theorem dX7_notes_53 : decode cX7_notes 53 = .ok (.aload_n 0, 1) := by decide +kernel
theorem dX7_notes_54 : decode cX7_notes 54 = .ok (.getfield 44, 3) := by decide +kernel
theorem dX7_notes_57 : decode cX7_notes 57 = .ok (.bipush 21, 2) := by decide +kernel
theorem dX7_notes_59 : decode cX7_notes 59 = .ok (.aload_n 0, 1) := by decide +kernel
theorem dX7_notes_60 : decode cX7_notes 60 = .ok (.getfield 133, 3) := by decide +kernel
theorem dX7_notes_63 : decode cX7_notes 63 = .ok (.imul, 1) := by decide +kernel
theorem dX7_notes_64 : decode cX7_notes 64 = .ok (.iload_n 1, 1) := by decide +kernel
theorem dX7_notes_65 : decode cX7_notes 65 = .ok (.iadd, 1) := by decide +kernel
theorem dX7_notes_66 : decode cX7_notes 66 = .ok (.aload_n 0, 1) := by decide +kernel
theorem dX7_notes_67 : decode cX7_notes 67 = .ok (.getfield 31, 3) := by decide +kernel
theorem dX7_notes_70 : decode cX7_notes 70 = .ok (.iload_n 1, 1) := by decide +kernel
theorem dX7_notes_71 : decode cX7_notes 71 = .ok (.iaload, 1) := by decide +kernel
theorem dX7_notes_72 : decode cX7_notes 72 = .ok (.iastore, 1) := by decide +kernel
theorem dX7_notes_73 : decode cX7_notes 73 = .ok (.iinc 1 1, 3) := by decide +kernel
theorem dX7_notes_76 : decode cX7_notes 76 = .ok (.goto (-29), 3) := by decide +kernel
theorem dX7_notes_79 : decode cX7_notes 79 = .ok (.aload_n 0, 1) := by decide +kernel
theorem dX7_notes_80 : decode cX7_notes 80 = .ok (.dup, 1) := by decide +kernel
theorem dX7_notes_81 : decode cX7_notes 81 = .ok (.getfield 133, 3) := by decide +kernel
theorem dX7_notes_84 : decode cX7_notes 84 = .ok (.iconst 1, 1) := by decide +kernel
theorem dX7_notes_85 : decode cX7_notes 85 = .ok (.iadd, 1) := by decide +kernel
theorem dX7_notes_86 : decode cX7_notes 86 = .ok (.putfield 133, 3) := by decide +kernel
theorem dX7_notes_89 : decode cX7_notes 89 = .ok (.return_, 1) := by decide +kernel
theorem dX7_fells_0 : decode cX7_fells 0 = .ok (.aload_n 0, 1) := by decide +kernel
theorem dX7_fells_1 : decode cX7_fells 1 = .ok (.aload_n 1, 1) := by decide +kernel
theorem dX7_fells_2 : decode cX7_fells 2 = .ok (.iload_n 2, 1) := by decide +kernel
theorem dX7_fells_3 : decode cX7_fells 3 = .ok (.invokevirtual 142, 3) := by decide +kernel
theorem dX7_fells_6 : decode cX7_fells 6 = .ok (.istore_n 3, 1) := by decide +kernel
theorem dX7_fells_7 : decode cX7_fells 7 = .ok (.aload_n 1, 1) := by decide +kernel
theorem dX7_fells_8 : decode cX7_fells 8 = .ok (.iconst 2, 1) := by decide +kernel
theorem dX7_fells_9 : decode cX7_fells 9 = .ok (.dup2, 1) := by decide +kernel
theorem dX7_fells_10 : decode cX7_fells 10 = .ok (.iaload, 1) := by decide +kernel
theorem dX7_fells_11 : decode cX7_fells 11 = .ok (.iload_n 3, 1) := by decide +kernel
theorem dX7_fells_12 : decode cX7_fells 12 = .ok (.iadd, 1) := by decide +kernel
theorem dX7_fells_13 : decode cX7_fells 13 = .ok (.iastore, 1) := by decide +kernel
theorem dX7_fells_14 : decode cX7_fells 14 = .ok (.aload_n 1, 1) := by decide +kernel
theorem dX7_fells_15 : decode cX7_fells 15 = .ok (.bipush 15, 2) := by decide +kernel
theorem dX7_fells_17 : decode cX7_fells 17 = .ok (.iload_n 2, 1) := by decide +kernel
theorem dX7_fells_18 : decode cX7_fells 18 = .ok (.iadd, 1) := by decide +kernel
theorem dX7_fells_19 : decode cX7_fells 19 = .ok (.iconst 0, 1) := by decide +kernel
theorem dX7_fells_20 : decode cX7_fells 20 = .ok (.iastore, 1) := by decide +kernel
theorem dX7_fells_21 : decode cX7_fells 21 = .ok (.iload_n 3, 1) := by decide +kernel
theorem dX7_fells_22 : decode cX7_fells 22 = .ok (.ireturn, 1) := by decide +kernel
theorem dX7_grows_0 : decode cX7_grows 0 = .ok (.iconst 0, 1) := by decide +kernel
theorem dX7_grows_1 : decode cX7_grows 1 = .ok (.istore_n 2, 1) := by decide +kernel
theorem dX7_grows_2 : decode cX7_grows 2 = .ok (.iload_n 2, 1) := by decide +kernel
theorem dX7_grows_3 : decode cX7_grows 3 = .ok (.aload_n 0, 1) := by decide +kernel
theorem dX7_grows_4 : decode cX7_grows 4 = .ok (.getfield 13, 3) := by decide +kernel
theorem dX7_grows_7 : decode cX7_grows 7 = .ok (.iconst 0, 1) := by decide +kernel
theorem dX7_grows_8 : decode cX7_grows 8 = .ok (.iaload, 1) := by decide +kernel
theorem dX7_grows_9 : decode cX7_grows 9 = .ok (.if_icmp .ge 34, 3) := by decide +kernel
theorem dX7_grows_12 : decode cX7_grows 12 = .ok (.aload_n 1, 1) := by decide +kernel
theorem dX7_grows_13 : decode cX7_grows 13 = .ok (.bipush 15, 2) := by decide +kernel
theorem dX7_grows_15 : decode cX7_grows 15 = .ok (.iload_n 2, 1) := by decide +kernel
theorem dX7_grows_16 : decode cX7_grows 16 = .ok (.iadd, 1) := by decide +kernel
theorem dX7_grows_17 : decode cX7_grows 17 = .ok (.dup2, 1) := by decide +kernel
theorem dX7_grows_18 : decode cX7_grows 18 = .ok (.iaload, 1) := by decide +kernel
theorem dX7_grows_19 : decode cX7_grows 19 = .ok (.aload_n 1, 1) := by decide +kernel
theorem dX7_grows_20 : decode cX7_grows 20 = .ok (.bipush 15, 2) := by decide +kernel
theorem dX7_grows_22 : decode cX7_grows 22 = .ok (.iload_n 2, 1) := by decide +kernel
theorem dX7_grows_23 : decode cX7_grows 23 = .ok (.iadd, 1) := by decide +kernel
theorem dX7_grows_24 : decode cX7_grows 24 = .ok (.iaload, 1) := by decide +kernel
theorem dX7_grows_25 : decode cX7_grows 25 = .ok (.bipush 40, 2) := by decide +kernel
theorem dX7_grows_27 : decode cX7_grows 27 = .ok (.if_icmp .ge 7, 3) := by decide +kernel
theorem dX7_grows_30 : decode cX7_grows 30 = .ok (.iconst 1, 1) := by decide +kernel
theorem dX7_grows_31 : decode cX7_grows 31 = .ok (.goto 4, 3) := by decide +kernel
theorem dX7_grows_34 : decode cX7_grows 34 = .ok (.iconst 0, 1) := by decide +kernel
theorem dX7_grows_35 : decode cX7_grows 35 = .ok (.iadd, 1) := by decide +kernel
theorem dX7_grows_36 : decode cX7_grows 36 = .ok (.iastore, 1) := by decide +kernel
theorem dX7_grows_37 : decode cX7_grows 37 = .ok (.iinc 2 1, 3) := by decide +kernel
theorem dX7_grows_40 : decode cX7_grows 40 = .ok (.goto (-38), 3) := by decide +kernel
theorem dX7_grows_43 : decode cX7_grows 43 = .ok (.aload_n 1, 1) := by decide +kernel
theorem dX7_grows_44 : decode cX7_grows 44 = .ok (.iconst 1, 1) := by decide +kernel
theorem dX7_grows_45 : decode cX7_grows 45 = .ok (.dup2, 1) := by decide +kernel
theorem dX7_grows_46 : decode cX7_grows 46 = .ok (.iaload, 1) := by decide +kernel
theorem dX7_grows_47 : decode cX7_grows 47 = .ok (.iconst 1, 1) := by decide +kernel
theorem dX7_grows_48 : decode cX7_grows 48 = .ok (.iadd, 1) := by decide +kernel
theorem dX7_grows_49 : decode cX7_grows 49 = .ok (.iastore, 1) := by decide +kernel
theorem dX7_grows_50 : decode cX7_grows 50 = .ok (.return_, 1) := by decide +kernel
theorem dX7_cuts_0 : decode cX7_cuts 0 = .ok (.aload_n 0, 1) := by decide +kernel
theorem dX7_cuts_1 : decode cX7_cuts 1 = .ok (.iconst 0, 1) := by decide +kernel
theorem dX7_cuts_2 : decode cX7_cuts 2 = .ok (.putfield 68, 3) := by decide +kernel
theorem dX7_cuts_5 : decode cX7_cuts 5 = .ok (.aload_n 0, 1) := by decide +kernel
theorem dX7_cuts_6 : decode cX7_cuts 6 = .ok (.iload_n 1, 1) := by decide +kernel
theorem dX7_cuts_7 : decode cX7_cuts 7 = .ok (.invokevirtual 139, 3) := by decide +kernel
theorem dX7_cuts_10 : decode cX7_cuts 10 = .ok (.ifCond .ne 5, 3) := by decide +kernel
theorem dX7_cuts_13 : decode cX7_cuts 13 = .ok (.iconst (-1), 1) := by decide +kernel
theorem dX7_cuts_14 : decode cX7_cuts 14 = .ok (.ireturn, 1) := by decide +kernel
theorem dX7_cuts_15 : decode cX7_cuts 15 = .ok (.aload_n 0, 1) := by decide +kernel
theorem dX7_cuts_16 : decode cX7_cuts 16 = .ok (.invokevirtual 152, 3) := by decide +kernel
theorem dX7_cuts_19 : decode cX7_cuts 19 = .ok (.aload_n 0, 1) := by decide +kernel
theorem dX7_cuts_20 : decode cX7_cuts 20 = .ok (.aload_n 0, 1) := by decide +kernel
theorem dX7_cuts_21 : decode cX7_cuts 21 = .ok (.getfield 31, 3) := by decide +kernel
theorem dX7_cuts_24 : decode cX7_cuts 24 = .ok (.iload_n 1, 1) := by decide +kernel
theorem dX7_cuts_25 : decode cX7_cuts 25 = .ok (.invokevirtual 155, 3) := by decide +kernel
theorem dX7_cuts_28 : decode cX7_cuts 28 = .ok (.ireturn, 1) := by decide +kernel
theorem dX7_year_0 : decode cX7_year 0 = .ok (.aload_n 0, 1) := by decide +kernel
theorem dX7_year_1 : decode cX7_year 1 = .ok (.iconst 0, 1) := by decide +kernel
theorem dX7_year_2 : decode cX7_year 2 = .ok (.putfield 68, 3) := by decide +kernel
theorem dX7_year_5 : decode cX7_year 5 = .ok (.aload_n 0, 1) := by decide +kernel
theorem dX7_year_6 : decode cX7_year 6 = .ok (.getfield 31, 3) := by decide +kernel
theorem dX7_year_9 : decode cX7_year 9 = .ok (.iconst 1, 1) := by decide +kernel
theorem dX7_year_10 : decode cX7_year 10 = .ok (.iaload, 1) := by decide +kernel
theorem dX7_year_11 : decode cX7_year 11 = .ok (.sipush 999, 3) := by decide +kernel
theorem dX7_year_14 : decode cX7_year 14 = .ok (.if_icmp .ne 6, 3) := by decide +kernel
theorem dX7_year_17 : decode cX7_year 17 = .ok (.bipush (-2), 2) := by decide +kernel
theorem dX7_year_19 : decode cX7_year 19 = .ok (.ireturn, 1) := by decide +kernel
theorem dX7_year_20 : decode cX7_year 20 = .ok (.aload_n 0, 1) := by decide +kernel
theorem dX7_year_21 : decode cX7_year 21 = .ok (.invokevirtual 152, 3) := by decide +kernel
theorem dX7_year_24 : decode cX7_year 24 = .ok (.aload_n 0, 1) := by decide +kernel
theorem dX7_year_25 : decode cX7_year 25 = .ok (.aload_n 0, 1) := by decide +kernel
theorem dX7_year_26 : decode cX7_year 26 = .ok (.getfield 31, 3) := by decide +kernel
theorem dX7_year_29 : decode cX7_year 29 = .ok (.invokevirtual 158, 3) := by decide +kernel
theorem dX7_year_32 : decode cX7_year 32 = .ok (.aload_n 0, 1) := by decide +kernel
theorem dX7_year_33 : decode cX7_year 33 = .ok (.getfield 31, 3) := by decide +kernel
theorem dX7_year_36 : decode cX7_year 36 = .ok (.iconst 1, 1) := by decide +kernel
theorem dX7_year_37 : decode cX7_year 37 = .ok (.iaload, 1) := by decide +kernel
theorem dX7_year_38 : decode cX7_year 38 = .ok (.ireturn, 1) := by decide +kernel
theorem dX7_days_0 : decode cX7_days 0 = .ok (.iload_n 1, 1) := by decide +kernel
theorem dX7_days_1 : decode cX7_days 1 = .ok (.aload_n 0, 1) := by decide +kernel
theorem dX7_days_2 : decode cX7_days 2 = .ok (.getfield 13, 3) := by decide +kernel
theorem dX7_days_5 : decode cX7_days 5 = .ok (.iconst 4, 1) := by decide +kernel
theorem dX7_days_6 : decode cX7_days 6 = .ok (.iaload, 1) := by decide +kernel
theorem dX7_days_7 : decode cX7_days 7 = .ok (.iadd, 1) := by decide +kernel
theorem dX7_days_8 : decode cX7_days 8 = .ok (.iconst 1, 1) := by decide +kernel
theorem dX7_days_9 : decode cX7_days 9 = .ok (.isub, 1) := by decide +kernel
theorem dX7_days_10 : decode cX7_days 10 = .ok (.aload_n 0, 1) := by decide +kernel
theorem dX7_days_11 : decode cX7_days 11 = .ok (.getfield 13, 3) := by decide +kernel
theorem dX7_days_14 : decode cX7_days 14 = .ok (.iconst 4, 1) := by decide +kernel
theorem dX7_days_15 : decode cX7_days 15 = .ok (.iaload, 1) := by decide +kernel
theorem dX7_days_16 : decode cX7_days 16 = .ok (.idiv, 1) := by decide +kernel
theorem dX7_days_17 : decode cX7_days 17 = .ok (.ireturn, 1) := by decide +kernel
theorem dX7_binds_0 : decode cX7_binds 0 = .ok (.aload_n 0, 1) := by decide +kernel
theorem dX7_binds_1 : decode cX7_binds 1 = .ok (.iconst 0, 1) := by decide +kernel
theorem dX7_binds_2 : decode cX7_binds 2 = .ok (.putfield 68, 3) := by decide +kernel
theorem dX7_binds_5 : decode cX7_binds 5 = .ok (.iload_n 1, 1) := by decide +kernel
theorem dX7_binds_6 : decode cX7_binds 6 = .ok (.iconst 1, 1) := by decide +kernel
theorem dX7_binds_7 : decode cX7_binds 7 = .ok (.bipush 99, 2) := by decide +kernel
theorem dX7_binds_9 : decode cX7_binds 9 = .ok (.invokestatic 72, 3) := by decide +kernel
theorem dX7_binds_12 : decode cX7_binds 12 = .ok (.ifCond .ne 5, 3) := by decide +kernel
theorem dX7_binds_15 : decode cX7_binds 15 = .ok (.iconst (-1), 1) := by decide +kernel
theorem dX7_binds_16 : decode cX7_binds 16 = .ok (.ireturn, 1) := by decide +kernel
theorem dX7_binds_17 : decode cX7_binds 17 = .ok (.iload_n 1, 1) := by decide +kernel
theorem dX7_binds_18 : decode cX7_binds 18 = .ok (.aload_n 0, 1) := by decide +kernel
theorem dX7_binds_19 : decode cX7_binds 19 = .ok (.getfield 13, 3) := by decide +kernel
theorem dX7_binds_22 : decode cX7_binds 22 = .ok (.iconst 3, 1) := by decide +kernel
theorem dX7_binds_23 : decode cX7_binds 23 = .ok (.iaload, 1) := by decide +kernel
theorem dX7_binds_24 : decode cX7_binds 24 = .ok (.imul, 1) := by decide +kernel
theorem dX7_binds_25 : decode cX7_binds 25 = .ok (.aload_n 0, 1) := by decide +kernel
theorem dX7_binds_26 : decode cX7_binds 26 = .ok (.getfield 31, 3) := by decide +kernel
theorem dX7_binds_29 : decode cX7_binds 29 = .ok (.iconst 2, 1) := by decide +kernel
theorem dX7_binds_30 : decode cX7_binds 30 = .ok (.iaload, 1) := by decide +kernel
theorem dX7_binds_31 : decode cX7_binds 31 = .ok (.if_icmp .gt 21, 3) := by decide +kernel
theorem dX7_binds_34 : decode cX7_binds 34 = .ok (.aload_n 0, 1) := by decide +kernel
theorem dX7_binds_35 : decode cX7_binds 35 = .ok (.getfield 31, 3) := by decide +kernel
theorem dX7_binds_38 : decode cX7_binds 38 = .ok (.iconst 0, 1) := by decide +kernel
theorem dX7_binds_39 : decode cX7_binds 39 = .ok (.iaload, 1) := by decide +kernel
theorem dX7_binds_40 : decode cX7_binds 40 = .ok (.aload_n 0, 1) := by decide +kernel
theorem dX7_binds_41 : decode cX7_binds 41 = .ok (.iload_n 1, 1) := by decide +kernel
theorem dX7_binds_42 : decode cX7_binds 42 = .ok (.invokevirtual 162, 3) := by decide +kernel
theorem dX7_binds_45 : decode cX7_binds 45 = .ok (.iadd, 1) := by decide +kernel
theorem dX7_binds_46 : decode cX7_binds 46 = .ok (.sipush 9999, 3) := by decide +kernel
theorem dX7_binds_49 : decode cX7_binds 49 = .ok (.if_icmp .le 6, 3) := by decide +kernel
theorem dX7_binds_52 : decode cX7_binds 52 = .ok (.bipush (-2), 2) := by decide +kernel
theorem dX7_binds_54 : decode cX7_binds 54 = .ok (.ireturn, 1) := by decide +kernel
theorem dX7_binds_55 : decode cX7_binds 55 = .ok (.aload_n 0, 1) := by decide +kernel
theorem dX7_binds_56 : decode cX7_binds 56 = .ok (.invokevirtual 152, 3) := by decide +kernel
theorem dX7_binds_59 : decode cX7_binds 59 = .ok (.aload_n 0, 1) := by decide +kernel
theorem dX7_binds_60 : decode cX7_binds 60 = .ok (.getfield 31, 3) := by decide +kernel
theorem dX7_binds_63 : decode cX7_binds 63 = .ok (.iconst 2, 1) := by decide +kernel
theorem dX7_binds_64 : decode cX7_binds 64 = .ok (.dup2, 1) := by decide +kernel
theorem dX7_binds_65 : decode cX7_binds 65 = .ok (.iaload, 1) := by decide +kernel
theorem dX7_binds_66 : decode cX7_binds 66 = .ok (.iload_n 1, 1) := by decide +kernel
theorem dX7_binds_67 : decode cX7_binds 67 = .ok (.aload_n 0, 1) := by decide +kernel
theorem dX7_binds_68 : decode cX7_binds 68 = .ok (.getfield 13, 3) := by decide +kernel
theorem dX7_binds_71 : decode cX7_binds 71 = .ok (.iconst 3, 1) := by decide +kernel
theorem dX7_binds_72 : decode cX7_binds 72 = .ok (.iaload, 1) := by decide +kernel
theorem dX7_binds_73 : decode cX7_binds 73 = .ok (.imul, 1) := by decide +kernel
theorem dX7_binds_74 : decode cX7_binds 74 = .ok (.isub, 1) := by decide +kernel
theorem dX7_binds_75 : decode cX7_binds 75 = .ok (.iastore, 1) := by decide +kernel
theorem dX7_binds_76 : decode cX7_binds 76 = .ok (.aload_n 0, 1) := by decide +kernel
theorem dX7_binds_77 : decode cX7_binds 77 = .ok (.getfield 31, 3) := by decide +kernel
theorem dX7_binds_80 : decode cX7_binds 80 = .ok (.iconst 3, 1) := by decide +kernel
theorem dX7_binds_81 : decode cX7_binds 81 = .ok (.dup2, 1) := by decide +kernel
theorem dX7_binds_82 : decode cX7_binds 82 = .ok (.iaload, 1) := by decide +kernel
theorem dX7_binds_83 : decode cX7_binds 83 = .ok (.iload_n 1, 1) := by decide +kernel
theorem dX7_binds_84 : decode cX7_binds 84 = .ok (.iadd, 1) := by decide +kernel
theorem dX7_binds_85 : decode cX7_binds 85 = .ok (.iastore, 1) := by decide +kernel
theorem dX7_binds_86 : decode cX7_binds 86 = .ok (.aload_n 0, 1) := by decide +kernel
theorem dX7_binds_87 : decode cX7_binds 87 = .ok (.getfield 31, 3) := by decide +kernel
theorem dX7_binds_90 : decode cX7_binds 90 = .ok (.iconst 0, 1) := by decide +kernel
theorem dX7_binds_91 : decode cX7_binds 91 = .ok (.dup2, 1) := by decide +kernel
theorem dX7_binds_92 : decode cX7_binds 92 = .ok (.iaload, 1) := by decide +kernel
theorem dX7_binds_93 : decode cX7_binds 93 = .ok (.aload_n 0, 1) := by decide +kernel
theorem dX7_binds_94 : decode cX7_binds 94 = .ok (.iload_n 1, 1) := by decide +kernel
theorem dX7_binds_95 : decode cX7_binds 95 = .ok (.invokevirtual 162, 3) := by decide +kernel
theorem dX7_binds_98 : decode cX7_binds 98 = .ok (.iadd, 1) := by decide +kernel
theorem dX7_binds_99 : decode cX7_binds 99 = .ok (.iastore, 1) := by decide +kernel
theorem dX7_binds_100 : decode cX7_binds 100 = .ok (.aload_n 0, 1) := by decide +kernel
theorem dX7_binds_101 : decode cX7_binds 101 = .ok (.getfield 31, 3) := by decide +kernel
theorem dX7_binds_104 : decode cX7_binds 104 = .ok (.iconst 0, 1) := by decide +kernel
theorem dX7_binds_105 : decode cX7_binds 105 = .ok (.iaload, 1) := by decide +kernel
theorem dX7_binds_106 : decode cX7_binds 106 = .ok (.ireturn, 1) := by decide +kernel
theorem dX7_sends_0 : decode cX7_sends 0 = .ok (.aload_n 0, 1) := by decide +kernel
theorem dX7_sends_1 : decode cX7_sends 1 = .ok (.iconst 0, 1) := by decide +kernel
theorem dX7_sends_2 : decode cX7_sends 2 = .ok (.putfield 68, 3) := by decide +kernel
theorem dX7_sends_5 : decode cX7_sends 5 = .ok (.aload_n 0, 1) := by decide +kernel
theorem dX7_sends_6 : decode cX7_sends 6 = .ok (.iload_n 1, 1) := by decide +kernel
theorem dX7_sends_7 : decode cX7_sends 7 = .ok (.invokevirtual 146, 3) := by decide +kernel
theorem dX7_sends_10 : decode cX7_sends 10 = .ok (.ifCond .ne 5, 3) := by decide +kernel
theorem dX7_sends_13 : decode cX7_sends 13 = .ok (.iconst (-1), 1) := by decide +kernel
theorem dX7_sends_14 : decode cX7_sends 14 = .ok (.ireturn, 1) := by decide +kernel
theorem dX7_sends_15 : decode cX7_sends 15 = .ok (.aload_n 0, 1) := by decide +kernel
theorem dX7_sends_16 : decode cX7_sends 16 = .ok (.iload_n 1, 1) := by decide +kernel
theorem dX7_sends_17 : decode cX7_sends 17 = .ok (.invokevirtual 149, 3) := by decide +kernel
theorem dX7_sends_20 : decode cX7_sends 20 = .ok (.ifCond .ne 33, 3) := by decide +kernel
theorem dX7_sends_23 : decode cX7_sends 23 = .ok (.aload_n 0, 1) := by decide +kernel
theorem dX7_sends_24 : decode cX7_sends 24 = .ok (.getfield 31, 3) := by decide +kernel
theorem dX7_sends_27 : decode cX7_sends 27 = .ok (.iconst 3, 1) := by decide +kernel
theorem dX7_sends_28 : decode cX7_sends 28 = .ok (.iaload, 1) := by decide +kernel
theorem dX7_sends_29 : decode cX7_sends 29 = .ok (.aload_n 0, 1) := by decide +kernel
theorem dX7_sends_30 : decode cX7_sends 30 = .ok (.getfield 25, 3) := by decide +kernel
theorem dX7_sends_33 : decode cX7_sends 33 = .ok (.iload_n 1, 1) := by decide +kernel
theorem dX7_sends_34 : decode cX7_sends 34 = .ok (.iaload, 1) := by decide +kernel
theorem dX7_sends_35 : decode cX7_sends 35 = .ok (.if_icmp .lt 18, 3) := by decide +kernel
theorem dX7_sends_38 : decode cX7_sends 38 = .ok (.aload_n 0, 1) := by decide +kernel
theorem dX7_sends_39 : decode cX7_sends 39 = .ok (.getfield 31, 3) := by decide +kernel
theorem dX7_sends_42 : decode cX7_sends 42 = .ok (.iconst 0, 1) := by decide +kernel
theorem dX7_sends_43 : decode cX7_sends 43 = .ok (.iaload, 1) := by decide +kernel
theorem dX7_sends_44 : decode cX7_sends 44 = .ok (.aload_n 0, 1) := by decide +kernel
theorem dX7_sends_45 : decode cX7_sends 45 = .ok (.getfield 22, 3) := by decide +kernel
theorem dX7_sends_48 : decode cX7_sends 48 = .ok (.iload_n 1, 1) := by decide +kernel
theorem dX7_sends_49 : decode cX7_sends 49 = .ok (.iaload, 1) := by decide +kernel
theorem dX7_sends_50 : decode cX7_sends 50 = .ok (.if_icmp .le 6, 3) := by decide +kernel
theorem dX7_sends_53 : decode cX7_sends 53 = .ok (.bipush (-2), 2) := by decide +kernel
theorem dX7_sends_55 : decode cX7_sends 55 = .ok (.ireturn, 1) := by decide +kernel
theorem dX7_sends_56 : decode cX7_sends 56 = .ok (.aload_n 0, 1) := by decide +kernel
theorem dX7_sends_57 : decode cX7_sends 57 = .ok (.invokevirtual 152, 3) := by decide +kernel
theorem dX7_sends_60 : decode cX7_sends 60 = .ok (.aload_n 0, 1) := by decide +kernel
theorem dX7_sends_61 : decode cX7_sends 61 = .ok (.getfield 31, 3) := by decide +kernel
theorem dX7_sends_64 : decode cX7_sends 64 = .ok (.iconst 3, 1) := by decide +kernel
theorem dX7_sends_65 : decode cX7_sends 65 = .ok (.dup2, 1) := by decide +kernel
theorem dX7_sends_66 : decode cX7_sends 66 = .ok (.iaload, 1) := by decide +kernel
theorem dX7_sends_67 : decode cX7_sends 67 = .ok (.aload_n 0, 1) := by decide +kernel
theorem dX7_sends_68 : decode cX7_sends 68 = .ok (.getfield 25, 3) := by decide +kernel
theorem dX7_sends_71 : decode cX7_sends 71 = .ok (.iload_n 1, 1) := by decide +kernel
theorem dX7_sends_72 : decode cX7_sends 72 = .ok (.iaload, 1) := by decide +kernel
theorem dX7_sends_73 : decode cX7_sends 73 = .ok (.isub, 1) := by decide +kernel
theorem dX7_sends_74 : decode cX7_sends 74 = .ok (.iastore, 1) := by decide +kernel
theorem dX7_sends_75 : decode cX7_sends 75 = .ok (.aload_n 0, 1) := by decide +kernel
theorem dX7_sends_76 : decode cX7_sends 76 = .ok (.getfield 31, 3) := by decide +kernel
theorem dX7_sends_79 : decode cX7_sends 79 = .ok (.iconst 4, 1) := by decide +kernel
theorem dX7_sends_80 : decode cX7_sends 80 = .ok (.dup2, 1) := by decide +kernel
theorem dX7_sends_81 : decode cX7_sends 81 = .ok (.iaload, 1) := by decide +kernel
theorem dX7_sends_82 : decode cX7_sends 82 = .ok (.aload_n 0, 1) := by decide +kernel
theorem dX7_sends_83 : decode cX7_sends 83 = .ok (.getfield 28, 3) := by decide +kernel
theorem dX7_sends_86 : decode cX7_sends 86 = .ok (.iload_n 1, 1) := by decide +kernel
theorem dX7_sends_87 : decode cX7_sends 87 = .ok (.iaload, 1) := by decide +kernel
theorem dX7_sends_88 : decode cX7_sends 88 = .ok (.iadd, 1) := by decide +kernel
theorem dX7_sends_89 : decode cX7_sends 89 = .ok (.iastore, 1) := by decide +kernel
theorem dX7_sends_90 : decode cX7_sends 90 = .ok (.aload_n 0, 1) := by decide +kernel
theorem dX7_sends_91 : decode cX7_sends 91 = .ok (.getfield 31, 3) := by decide +kernel
theorem dX7_sends_94 : decode cX7_sends 94 = .ok (.iconst 5, 1) := by decide +kernel
theorem dX7_sends_95 : decode cX7_sends 95 = .ok (.dup2, 1) := by decide +kernel
theorem dX7_sends_96 : decode cX7_sends 96 = .ok (.iaload, 1) := by decide +kernel
theorem dX7_sends_97 : decode cX7_sends 97 = .ok (.iconst 1, 1) := by decide +kernel
theorem dX7_sends_98 : decode cX7_sends 98 = .ok (.iload_n 1, 1) := by decide +kernel
theorem dX7_sends_99 : decode cX7_sends 99 = .ok (.ishl, 1) := by decide +kernel
theorem dX7_sends_100 : decode cX7_sends 100 = .ok (.ior, 1) := by decide +kernel
theorem dX7_sends_101 : decode cX7_sends 101 = .ok (.iastore, 1) := by decide +kernel
theorem dX7_sends_102 : decode cX7_sends 102 = .ok (.aload_n 0, 1) := by decide +kernel
theorem dX7_sends_103 : decode cX7_sends 103 = .ok (.getfield 31, 3) := by decide +kernel
theorem dX7_sends_106 : decode cX7_sends 106 = .ok (.iconst 4, 1) := by decide +kernel
theorem dX7_sends_107 : decode cX7_sends 107 = .ok (.iaload, 1) := by decide +kernel
theorem dX7_sends_108 : decode cX7_sends 108 = .ok (.ireturn, 1) := by decide +kernel
theorem dX7_shortens_0 : decode cX7_shortens 0 = .ok (.bipush 7, 2) := by decide +kernel
theorem dX7_shortens_2 : decode cX7_shortens 2 = .ok (.iload_n 1, 1) := by decide +kernel
theorem dX7_shortens_3 : decode cX7_shortens 3 = .ok (.bipush 8, 2) := by decide +kernel
theorem dX7_shortens_5 : decode cX7_shortens 5 = .ok (.irem, 1) := by decide +kernel
theorem dX7_shortens_6 : decode cX7_shortens 6 = .ok (.iadd, 1) := by decide +kernel
theorem dX7_shortens_7 : decode cX7_shortens 7 = .ok (.istore_n 3, 1) := by decide +kernel
theorem dX7_shortens_8 : decode cX7_shortens 8 = .ok (.aload_n 0, 1) := by decide +kernel
theorem dX7_shortens_9 : decode cX7_shortens 9 = .ok (.iload_n 3, 1) := by decide +kernel
theorem dX7_shortens_10 : decode cX7_shortens 10 = .ok (.aload_n 0, 1) := by decide +kernel
theorem dX7_shortens_11 : decode cX7_shortens 11 = .ok (.iload_n 3, 1) := by decide +kernel
theorem dX7_shortens_12 : decode cX7_shortens 12 = .ok (.iaload, 1) := by decide +kernel
theorem dX7_shortens_13 : decode cX7_shortens 13 = .ok (.iload_n 2, 1) := by decide +kernel
theorem dX7_shortens_14 : decode cX7_shortens 14 = .ok (.if_icmp .ge 7, 3) := by decide +kernel
theorem dX7_shortens_17 : decode cX7_shortens 17 = .ok (.iconst 0, 1) := by decide +kernel
theorem dX7_shortens_18 : decode cX7_shortens 18 = .ok (.goto 8, 3) := by decide +kernel
theorem dX7_shortens_21 : decode cX7_shortens 21 = .ok (.aload_n 0, 1) := by decide +kernel
theorem dX7_shortens_22 : decode cX7_shortens 22 = .ok (.iload_n 3, 1) := by decide +kernel
theorem dX7_shortens_23 : decode cX7_shortens 23 = .ok (.iaload, 1) := by decide +kernel
theorem dX7_shortens_24 : decode cX7_shortens 24 = .ok (.iload_n 2, 1) := by decide +kernel
theorem dX7_shortens_25 : decode cX7_shortens 25 = .ok (.isub, 1) := by decide +kernel
theorem dX7_shortens_26 : decode cX7_shortens 26 = .ok (.iastore, 1) := by decide +kernel
theorem dX7_shortens_27 : decode cX7_shortens 27 = .ok (.return_, 1) := by decide +kernel
theorem dX7_sweep_0 : decode cX7_sweep 0 = .ok (.aload_n 0, 1) := by decide +kernel
theorem dX7_sweep_1 : decode cX7_sweep 1 = .ok (.aload_n 0, 1) := by decide +kernel
theorem dX7_sweep_2 : decode cX7_sweep 2 = .ok (.bipush 6, 2) := by decide +kernel
theorem dX7_sweep_4 : decode cX7_sweep 4 = .ok (.iaload, 1) := by decide +kernel
theorem dX7_sweep_5 : decode cX7_sweep 5 = .ok (.iconst 2, 1) := by decide +kernel
theorem dX7_sweep_6 : decode cX7_sweep 6 = .ok (.invokestatic 165, 3) := by decide +kernel
theorem dX7_sweep_9 : decode cX7_sweep 9 = .ok (.aload_n 0, 1) := by decide +kernel
theorem dX7_sweep_10 : decode cX7_sweep 10 = .ok (.aload_n 0, 1) := by decide +kernel
theorem dX7_sweep_11 : decode cX7_sweep 11 = .ok (.bipush 6, 2) := by decide +kernel
theorem dX7_sweep_13 : decode cX7_sweep 13 = .ok (.iaload, 1) := by decide +kernel
theorem dX7_sweep_14 : decode cX7_sweep 14 = .ok (.iconst 1, 1) := by decide +kernel
theorem dX7_sweep_15 : decode cX7_sweep 15 = .ok (.iadd, 1) := by decide +kernel
theorem dX7_sweep_16 : decode cX7_sweep 16 = .ok (.iconst 1, 1) := by decide +kernel
theorem dX7_sweep_17 : decode cX7_sweep 17 = .ok (.invokestatic 165, 3) := by decide +kernel
theorem dX7_sweep_20 : decode cX7_sweep 20 = .ok (.aload_n 0, 1) := by decide +kernel
theorem dX7_sweep_21 : decode cX7_sweep 21 = .ok (.aload_n 0, 1) := by decide +kernel
theorem dX7_sweep_22 : decode cX7_sweep 22 = .ok (.bipush 6, 2) := by decide +kernel
theorem dX7_sweep_24 : decode cX7_sweep 24 = .ok (.iaload, 1) := by decide +kernel
theorem dX7_sweep_25 : decode cX7_sweep 25 = .ok (.bipush 7, 2) := by decide +kernel
theorem dX7_sweep_27 : decode cX7_sweep 27 = .ok (.iadd, 1) := by decide +kernel
theorem dX7_sweep_28 : decode cX7_sweep 28 = .ok (.iconst 1, 1) := by decide +kernel
theorem dX7_sweep_29 : decode cX7_sweep 29 = .ok (.invokestatic 165, 3) := by decide +kernel
theorem dX7_sweep_32 : decode cX7_sweep 32 = .ok (.return_, 1) := by decide +kernel
theorem dX7_sweeps_0 : decode cX7_sweeps 0 = .ok (.aload_n 0, 1) := by decide +kernel
theorem dX7_sweeps_1 : decode cX7_sweeps 1 = .ok (.iconst 0, 1) := by decide +kernel
theorem dX7_sweeps_2 : decode cX7_sweeps 2 = .ok (.putfield 68, 3) := by decide +kernel
theorem dX7_sweeps_5 : decode cX7_sweeps 5 = .ok (.aload_n 0, 1) := by decide +kernel
theorem dX7_sweeps_6 : decode cX7_sweeps 6 = .ok (.invokevirtual 152, 3) := by decide +kernel
theorem dX7_sweeps_9 : decode cX7_sweeps 9 = .ok (.aload_n 0, 1) := by decide +kernel
theorem dX7_sweeps_10 : decode cX7_sweeps 10 = .ok (.getfield 31, 3) := by decide +kernel
theorem dX7_sweeps_13 : decode cX7_sweeps 13 = .ok (.invokestatic 169, 3) := by decide +kernel
theorem dX7_sweeps_16 : decode cX7_sweeps 16 = .ok (.aload_n 0, 1) := by decide +kernel
theorem dX7_sweeps_17 : decode cX7_sweeps 17 = .ok (.getfield 31, 3) := by decide +kernel
theorem dX7_sweeps_20 : decode cX7_sweeps 20 = .ok (.bipush 7, 2) := by decide +kernel
theorem dX7_sweeps_22 : decode cX7_sweeps 22 = .ok (.aload_n 0, 1) := by decide +kernel
theorem dX7_sweeps_23 : decode cX7_sweeps 23 = .ok (.getfield 31, 3) := by decide +kernel
theorem dX7_sweeps_26 : decode cX7_sweeps 26 = .ok (.bipush 6, 2) := by decide +kernel
theorem dX7_sweeps_28 : decode cX7_sweeps 28 = .ok (.iaload, 1) := by decide +kernel
theorem dX7_sweeps_29 : decode cX7_sweeps 29 = .ok (.iadd, 1) := by decide +kernel
theorem dX7_sweeps_30 : decode cX7_sweeps 30 = .ok (.iaload, 1) := by decide +kernel
theorem dX7_sweeps_31 : decode cX7_sweeps 31 = .ok (.ireturn, 1) := by decide +kernel
theorem dX7_spins_0 : decode cX7_spins 0 = .ok (.aload_n 0, 1) := by decide +kernel
theorem dX7_spins_1 : decode cX7_spins 1 = .ok (.iconst 0, 1) := by decide +kernel
theorem dX7_spins_2 : decode cX7_spins 2 = .ok (.putfield 68, 3) := by decide +kernel
theorem dX7_spins_5 : decode cX7_spins 5 = .ok (.iload_n 1, 1) := by decide +kernel
theorem dX7_spins_6 : decode cX7_spins 6 = .ok (.iconst 1, 1) := by decide +kernel
theorem dX7_spins_7 : decode cX7_spins 7 = .ok (.bipush 7, 2) := by decide +kernel
theorem dX7_spins_9 : decode cX7_spins 9 = .ok (.invokestatic 72, 3) := by decide +kernel
theorem dX7_spins_12 : decode cX7_spins 12 = .ok (.ifCond .ne 5, 3) := by decide +kernel
theorem dX7_spins_15 : decode cX7_spins 15 = .ok (.iconst (-1), 1) := by decide +kernel
theorem dX7_spins_16 : decode cX7_spins 16 = .ok (.ireturn, 1) := by decide +kernel
theorem dX7_spins_17 : decode cX7_spins 17 = .ok (.aload_n 0, 1) := by decide +kernel
theorem dX7_spins_18 : decode cX7_spins 18 = .ok (.invokevirtual 152, 3) := by decide +kernel
theorem dX7_spins_21 : decode cX7_spins 21 = .ok (.aload_n 0, 1) := by decide +kernel
theorem dX7_spins_22 : decode cX7_spins 22 = .ok (.getfield 31, 3) := by decide +kernel
theorem dX7_spins_25 : decode cX7_spins 25 = .ok (.bipush 6, 2) := by decide +kernel
theorem dX7_spins_27 : decode cX7_spins 27 = .ok (.aload_n 0, 1) := by decide +kernel
theorem dX7_spins_28 : decode cX7_spins 28 = .ok (.getfield 31, 3) := by decide +kernel
theorem dX7_spins_31 : decode cX7_spins 31 = .ok (.bipush 6, 2) := by decide +kernel
theorem dX7_spins_33 : decode cX7_spins 33 = .ok (.iaload, 1) := by decide +kernel
theorem dX7_spins_34 : decode cX7_spins 34 = .ok (.iload_n 1, 1) := by decide +kernel
theorem dX7_spins_35 : decode cX7_spins 35 = .ok (.iadd, 1) := by decide +kernel
theorem dX7_spins_36 : decode cX7_spins 36 = .ok (.bipush 8, 2) := by decide +kernel
theorem dX7_spins_38 : decode cX7_spins 38 = .ok (.irem, 1) := by decide +kernel
theorem dX7_spins_39 : decode cX7_spins 39 = .ok (.iastore, 1) := by decide +kernel
theorem dX7_spins_40 : decode cX7_spins 40 = .ok (.aload_n 0, 1) := by decide +kernel
theorem dX7_spins_41 : decode cX7_spins 41 = .ok (.getfield 31, 3) := by decide +kernel
theorem dX7_spins_44 : decode cX7_spins 44 = .ok (.bipush 6, 2) := by decide +kernel
theorem dX7_spins_46 : decode cX7_spins 46 = .ok (.iaload, 1) := by decide +kernel
theorem dX7_spins_47 : decode cX7_spins 47 = .ok (.ireturn, 1) := by decide +kernel
theorem dX7_undo_0 : decode cX7_undo 0 = .ok (.aload_n 0, 1) := by decide +kernel
theorem dX7_undo_1 : decode cX7_undo 1 = .ok (.iconst 0, 1) := by decide +kernel
theorem dX7_undo_2 : decode cX7_undo 2 = .ok (.putfield 68, 3) := by decide +kernel
theorem dX7_undo_5 : decode cX7_undo 5 = .ok (.aload_n 0, 1) := by decide +kernel
theorem dX7_undo_6 : decode cX7_undo 6 = .ok (.getfield 133, 3) := by decide +kernel
theorem dX7_undo_9 : decode cX7_undo 9 = .ok (.ifCond .ne 6, 3) := by decide +kernel
theorem dX7_undo_12 : decode cX7_undo 12 = .ok (.bipush (-2), 2) := by decide +kernel
theorem dX7_undo_14 : decode cX7_undo 14 = .ok (.ireturn, 1) := by decide +kernel
theorem dX7_undo_15 : decode cX7_undo 15 = .ok (.aload_n 0, 1) := by decide +kernel
theorem dX7_undo_16 : decode cX7_undo 16 = .ok (.dup, 1) := by decide +kernel
theorem dX7_undo_17 : decode cX7_undo 17 = .ok (.getfield 133, 3) := by decide +kernel
theorem dX7_undo_20 : decode cX7_undo 20 = .ok (.iconst 1, 1) := by decide +kernel
theorem dX7_undo_21 : decode cX7_undo 21 = .ok (.isub, 1) := by decide +kernel
theorem dX7_undo_22 : decode cX7_undo 22 = .ok (.putfield 133, 3) := by decide +kernel
theorem dX7_undo_25 : decode cX7_undo 25 = .ok (.iconst 0, 1) := by decide +kernel
theorem dX7_undo_26 : decode cX7_undo 26 = .ok (.istore_n 1, 1) := by decide +kernel
theorem dX7_undo_27 : decode cX7_undo 27 = .ok (.iload_n 1, 1) := by decide +kernel
theorem dX7_undo_28 : decode cX7_undo 28 = .ok (.bipush 21, 2) := by decide +kernel
theorem dX7_undo_30 : decode cX7_undo 30 = .ok (.if_icmp .ge 29, 3) := by decide +kernel
theorem dX7_undo_33 : decode cX7_undo 33 = .ok (.aload_n 0, 1) := by decide +kernel
theorem dX7_undo_34 : decode cX7_undo 34 = .ok (.getfield 31, 3) := by decide +kernel
theorem dX7_undo_37 : decode cX7_undo 37 = .ok (.iload_n 1, 1) := by decide +kernel
theorem dX7_undo_38 : decode cX7_undo 38 = .ok (.aload_n 0, 1) := by decide +kernel
theorem dX7_undo_39 : decode cX7_undo 39 = .ok (.getfield 44, 3) := by decide +kernel
theorem dX7_undo_42 : decode cX7_undo 42 = .ok (.bipush 21, 2) := by decide +kernel
theorem dX7_undo_44 : decode cX7_undo 44 = .ok (.aload_n 0, 1) := by decide +kernel
theorem dX7_undo_45 : decode cX7_undo 45 = .ok (.getfield 133, 3) := by decide +kernel
theorem dX7_undo_48 : decode cX7_undo 48 = .ok (.imul, 1) := by decide +kernel
theorem dX7_undo_49 : decode cX7_undo 49 = .ok (.iload_n 1, 1) := by decide +kernel
theorem dX7_undo_50 : decode cX7_undo 50 = .ok (.iadd, 1) := by decide +kernel
theorem dX7_undo_51 : decode cX7_undo 51 = .ok (.iaload, 1) := by decide +kernel
theorem dX7_undo_52 : decode cX7_undo 52 = .ok (.iastore, 1) := by decide +kernel
theorem dX7_undo_53 : decode cX7_undo 53 = .ok (.iinc 1 1, 3) := by decide +kernel
theorem dX7_undo_56 : decode cX7_undo 56 = .ok (.goto (-29), 3) := by decide +kernel
theorem dX7_undo_59 : decode cX7_undo 59 = .ok (.aload_n 0, 1) := by decide +kernel
theorem dX7_undo_60 : decode cX7_undo 60 = .ok (.getfield 133, 3) := by decide +kernel
theorem dX7_undo_63 : decode cX7_undo 63 = .ok (.ireturn, 1) := by decide +kernel
theorem dX7_asNow_0 : decode cX7_asNow 0 = .ok (.iconst 0, 1) := by decide +kernel
theorem dX7_asNow_1 : decode cX7_asNow 1 = .ok (.istore_n 1, 1) := by decide +kernel
theorem dX7_asNow_2 : decode cX7_asNow 2 = .ok (.iload_n 1, 1) := by decide +kernel
theorem dX7_asNow_3 : decode cX7_asNow 3 = .ok (.bipush 21, 2) := by decide +kernel
theorem dX7_asNow_5 : decode cX7_asNow 5 = .ok (.if_icmp .ge 21, 3) := by decide +kernel
theorem dX7_asNow_8 : decode cX7_asNow 8 = .ok (.aload_n 0, 1) := by decide +kernel
theorem dX7_asNow_9 : decode cX7_asNow 9 = .ok (.getfield 34, 3) := by decide +kernel
theorem dX7_asNow_12 : decode cX7_asNow 12 = .ok (.iload_n 1, 1) := by decide +kernel
theorem dX7_asNow_13 : decode cX7_asNow 13 = .ok (.aload_n 0, 1) := by decide +kernel
theorem dX7_asNow_14 : decode cX7_asNow 14 = .ok (.getfield 31, 3) := by decide +kernel
theorem dX7_asNow_17 : decode cX7_asNow 17 = .ok (.iload_n 1, 1) := by decide +kernel
theorem dX7_asNow_18 : decode cX7_asNow 18 = .ok (.iaload, 1) := by decide +kernel
theorem dX7_asNow_19 : decode cX7_asNow 19 = .ok (.iastore, 1) := by decide +kernel
theorem dX7_asNow_20 : decode cX7_asNow 20 = .ok (.iinc 1 1, 3) := by decide +kernel
theorem dX7_asNow_23 : decode cX7_asNow 23 = .ok (.goto (-21), 3) := by decide +kernel
theorem dX7_asNow_26 : decode cX7_asNow 26 = .ok (.return_, 1) := by decide +kernel
theorem dX7_inYears_0 : decode cX7_inYears 0 = .ok (.aload_n 0, 1) := by decide +kernel
theorem dX7_inYears_1 : decode cX7_inYears 1 = .ok (.iconst 0, 1) := by decide +kernel
theorem dX7_inYears_2 : decode cX7_inYears 2 = .ok (.putfield 68, 3) := by decide +kernel
theorem dX7_inYears_5 : decode cX7_inYears 5 = .ok (.aload_n 0, 1) := by decide +kernel
theorem dX7_inYears_6 : decode cX7_inYears 6 = .ok (.iload_n 1, 1) := by decide +kernel
theorem dX7_inYears_7 : decode cX7_inYears 7 = .ok (.invokevirtual 139, 3) := by decide +kernel
theorem dX7_inYears_10 : decode cX7_inYears 10 = .ok (.ifCond .eq 13, 3) := by decide +kernel
theorem dX7_inYears_13 : decode cX7_inYears 13 = .ok (.iload_n 2, 1) := by decide +kernel
theorem dX7_inYears_14 : decode cX7_inYears 14 = .ok (.iconst 0, 1) := by decide +kernel
theorem dX7_inYears_15 : decode cX7_inYears 15 = .ok (.bipush 30, 2) := by decide +kernel
theorem dX7_inYears_17 : decode cX7_inYears 17 = .ok (.invokestatic 72, 3) := by decide +kernel
theorem dX7_inYears_20 : decode cX7_inYears 20 = .ok (.ifCond .ne 5, 3) := by decide +kernel
theorem dX7_inYears_23 : decode cX7_inYears 23 = .ok (.iconst (-1), 1) := by decide +kernel
theorem dX7_inYears_24 : decode cX7_inYears 24 = .ok (.ireturn, 1) := by decide +kernel
theorem dX7_inYears_25 : decode cX7_inYears 25 = .ok (.aload_n 0, 1) := by decide +kernel
theorem dX7_inYears_26 : decode cX7_inYears 26 = .ok (.getfield 31, 3) := by decide +kernel
theorem dX7_inYears_29 : decode cX7_inYears 29 = .ok (.bipush 15, 2) := by decide +kernel
theorem dX7_inYears_31 : decode cX7_inYears 31 = .ok (.iload_n 1, 1) := by decide +kernel
theorem dX7_inYears_32 : decode cX7_inYears 32 = .ok (.iadd, 1) := by decide +kernel
theorem dX7_inYears_33 : decode cX7_inYears 33 = .ok (.iaload, 1) := by decide +kernel
theorem dX7_inYears_34 : decode cX7_inYears 34 = .ok (.iload_n 2, 1) := by decide +kernel
theorem dX7_inYears_35 : decode cX7_inYears 35 = .ok (.iadd, 1) := by decide +kernel
theorem dX7_inYears_36 : decode cX7_inYears 36 = .ok (.istore_n 3, 1) := by decide +kernel
theorem dX7_inYears_37 : decode cX7_inYears 37 = .ok (.aload_n 0, 1) := by decide +kernel
theorem dX7_inYears_38 : decode cX7_inYears 38 = .ok (.aload_n 0, 1) := by decide +kernel
theorem dX7_inYears_39 : decode cX7_inYears 39 = .ok (.getfield 16, 3) := by decide +kernel
theorem dX7_inYears_42 : decode cX7_inYears 42 = .ok (.iload_n 1, 1) := by decide +kernel
theorem dX7_inYears_43 : decode cX7_inYears 43 = .ok (.iaload, 1) := by decide +kernel
theorem dX7_inYears_44 : decode cX7_inYears 44 = .ok (.iload_n 3, 1) := by decide +kernel
theorem dX7_inYears_45 : decode cX7_inYears 45 = .ok (.bipush 40, 2) := by decide +kernel
theorem dX7_inYears_47 : decode cX7_inYears 47 = .ok (.if_icmp .le 8, 3) := by decide +kernel
theorem dX7_inYears_50 : decode cX7_inYears 50 = .ok (.bipush 40, 2) := by decide +kernel
theorem dX7_inYears_52 : decode cX7_inYears 52 = .ok (.goto 4, 3) := by decide +kernel
theorem dX7_inYears_55 : decode cX7_inYears 55 = .ok (.iload_n 3, 1) := by decide +kernel
theorem dX7_inYears_56 : decode cX7_inYears 56 = .ok (.invokevirtual 136, 3) := by decide +kernel
theorem dX7_inYears_59 : decode cX7_inYears 59 = .ok (.ireturn, 1) := by decide +kernel
theorem dX7_gcd_0 : decode cX7_gcd 0 = .ok (.iload_n 0, 1) := by decide +kernel
theorem dX7_gcd_1 : decode cX7_gcd 1 = .ok (.istore_n 2, 1) := by decide +kernel
theorem dX7_gcd_2 : decode cX7_gcd 2 = .ok (.iload_n 1, 1) := by decide +kernel
theorem dX7_gcd_3 : decode cX7_gcd 3 = .ok (.istore_n 3, 1) := by decide +kernel
theorem dX7_gcd_4 : decode cX7_gcd 4 = .ok (.iload_n 3, 1) := by decide +kernel
theorem dX7_gcd_5 : decode cX7_gcd 5 = .ok (.ifCond .eq 16, 3) := by decide +kernel
theorem dX7_gcd_8 : decode cX7_gcd 8 = .ok (.iload_n 2, 1) := by decide +kernel
theorem dX7_gcd_9 : decode cX7_gcd 9 = .ok (.iload_n 3, 1) := by decide +kernel
theorem dX7_gcd_10 : decode cX7_gcd 10 = .ok (.irem, 1) := by decide +kernel
theorem dX7_gcd_11 : decode cX7_gcd 11 = .ok (.istore 4, 2) := by decide +kernel
theorem dX7_gcd_13 : decode cX7_gcd 13 = .ok (.iload_n 3, 1) := by decide +kernel
theorem dX7_gcd_14 : decode cX7_gcd 14 = .ok (.istore_n 2, 1) := by decide +kernel
theorem dX7_gcd_15 : decode cX7_gcd 15 = .ok (.iload 4, 2) := by decide +kernel
theorem dX7_gcd_17 : decode cX7_gcd 17 = .ok (.istore_n 3, 1) := by decide +kernel
theorem dX7_gcd_18 : decode cX7_gcd 18 = .ok (.goto (-14), 3) := by decide +kernel
theorem dX7_gcd_21 : decode cX7_gcd 21 = .ok (.iload_n 2, 1) := by decide +kernel
theorem dX7_gcd_22 : decode cX7_gcd 22 = .ok (.ireturn, 1) := by decide +kernel
theorem dX7_turn_0 : decode cX7_turn 0 = .ok (.aload_n 0, 1) := by decide +kernel
theorem dX7_turn_1 : decode cX7_turn 1 = .ok (.iconst 0, 1) := by decide +kernel
theorem dX7_turn_2 : decode cX7_turn 2 = .ok (.putfield 68, 3) := by decide +kernel
theorem dX7_turn_5 : decode cX7_turn 5 = .ok (.iload_n 1, 1) := by decide +kernel
theorem dX7_turn_6 : decode cX7_turn 6 = .ok (.iconst 1, 1) := by decide +kernel
theorem dX7_turn_7 : decode cX7_turn 7 = .ok (.bipush 30, 2) := by decide +kernel
theorem dX7_turn_9 : decode cX7_turn 9 = .ok (.invokestatic 72, 3) := by decide +kernel
theorem dX7_turn_12 : decode cX7_turn 12 = .ok (.ifCond .eq 12, 3) := by decide +kernel
theorem dX7_turn_15 : decode cX7_turn 15 = .ok (.iload_n 2, 1) := by decide +kernel
theorem dX7_turn_16 : decode cX7_turn 16 = .ok (.iconst 0, 1) := by decide +kernel
theorem dX7_turn_17 : decode cX7_turn 17 = .ok (.iconst 2, 1) := by decide +kernel
theorem dX7_turn_18 : decode cX7_turn 18 = .ok (.invokestatic 72, 3) := by decide +kernel
theorem dX7_turn_21 : decode cX7_turn 21 = .ok (.ifCond .ne 5, 3) := by decide +kernel
theorem dX7_turn_24 : decode cX7_turn 24 = .ok (.iconst (-1), 1) := by decide +kernel
theorem dX7_turn_25 : decode cX7_turn 25 = .ok (.ireturn, 1) := by decide +kernel
theorem dX7_turn_26 : decode cX7_turn 26 = .ok (.iconst 1, 1) := by decide +kernel
theorem dX7_turn_27 : decode cX7_turn 27 = .ok (.istore_n 3, 1) := by decide +kernel
theorem dX7_turn_28 : decode cX7_turn 28 = .ok (.iconst 2, 1) := by decide +kernel
theorem dX7_turn_29 : decode cX7_turn 29 = .ok (.istore 4, 2) := by decide +kernel
theorem dX7_turn_31 : decode cX7_turn 31 = .ok (.iload 4, 2) := by decide +kernel
theorem dX7_turn_33 : decode cX7_turn 33 = .ok (.bipush 30, 2) := by decide +kernel
theorem dX7_turn_35 : decode cX7_turn 35 = .ok (.if_icmp .gt 37, 3) := by decide +kernel
theorem dX7_turn_38 : decode cX7_turn 38 = .ok (.aload_n 0, 1) := by decide +kernel
theorem dX7_turn_39 : decode cX7_turn 39 = .ok (.iconst 1, 1) := by decide +kernel
theorem dX7_turn_40 : decode cX7_turn 40 = .ok (.iload 4, 2) := by decide +kernel
theorem dX7_turn_42 : decode cX7_turn 42 = .ok (.invokevirtual 136, 3) := by decide +kernel
theorem dX7_turn_45 : decode cX7_turn 45 = .ok (.iload_n 3, 1) := by decide +kernel
theorem dX7_turn_46 : decode cX7_turn 46 = .ok (.imul, 1) := by decide +kernel
theorem dX7_turn_47 : decode cX7_turn 47 = .ok (.aload_n 0, 1) := by decide +kernel
theorem dX7_turn_48 : decode cX7_turn 48 = .ok (.iconst 1, 1) := by decide +kernel
theorem dX7_turn_49 : decode cX7_turn 49 = .ok (.iload_n 3, 1) := by decide +kernel
theorem dX7_turn_50 : decode cX7_turn 50 = .ok (.invokevirtual 136, 3) := by decide +kernel
theorem dX7_turn_53 : decode cX7_turn 53 = .ok (.iload 4, 2) := by decide +kernel
theorem dX7_turn_55 : decode cX7_turn 55 = .ok (.imul, 1) := by decide +kernel
theorem dX7_turn_56 : decode cX7_turn 56 = .ok (.if_icmp .le 8, 3) := by decide +kernel
theorem dX7_turn_59 : decode cX7_turn 59 = .ok (.iload 4, 2) := by decide +kernel
theorem dX7_turn_61 : decode cX7_turn 61 = .ok (.goto 4, 3) := by decide +kernel
theorem dX7_turn_64 : decode cX7_turn 64 = .ok (.iload_n 3, 1) := by decide +kernel
theorem dX7_turn_65 : decode cX7_turn 65 = .ok (.istore_n 3, 1) := by decide +kernel
theorem dX7_turn_66 : decode cX7_turn 66 = .ok (.iinc 4 1, 3) := by decide +kernel
theorem dX7_turn_69 : decode cX7_turn 69 = .ok (.goto (-38), 3) := by decide +kernel
theorem dX7_turn_72 : decode cX7_turn 72 = .ok (.aload_n 0, 1) := by decide +kernel
theorem dX7_turn_73 : decode cX7_turn 73 = .ok (.iconst 1, 1) := by decide +kernel
theorem dX7_turn_74 : decode cX7_turn 74 = .ok (.iload_n 1, 1) := by decide +kernel
theorem dX7_turn_75 : decode cX7_turn 75 = .ok (.invokevirtual 136, 3) := by decide +kernel
theorem dX7_turn_78 : decode cX7_turn 78 = .ok (.iload_n 1, 1) := by decide +kernel
theorem dX7_turn_79 : decode cX7_turn 79 = .ok (.invokestatic 172, 3) := by decide +kernel
theorem dX7_turn_82 : decode cX7_turn 82 = .ok (.istore 4, 2) := by decide +kernel
theorem dX7_turn_84 : decode cX7_turn 84 = .ok (.iload_n 2, 1) := by decide +kernel
theorem dX7_turn_85 : decode cX7_turn 85 = .ok (.ifCond .ne 15, 3) := by decide +kernel
theorem dX7_turn_88 : decode cX7_turn 88 = .ok (.aload_n 0, 1) := by decide +kernel
theorem dX7_turn_89 : decode cX7_turn 89 = .ok (.iconst 1, 1) := by decide +kernel
theorem dX7_turn_90 : decode cX7_turn 90 = .ok (.iload_n 1, 1) := by decide +kernel
theorem dX7_turn_91 : decode cX7_turn 91 = .ok (.invokevirtual 136, 3) := by decide +kernel
theorem dX7_turn_94 : decode cX7_turn 94 = .ok (.iload 4, 2) := by decide +kernel
theorem dX7_turn_96 : decode cX7_turn 96 = .ok (.idiv, 1) := by decide +kernel
theorem dX7_turn_97 : decode cX7_turn 97 = .ok (.goto 16, 3) := by decide +kernel
theorem dX7_turn_100 : decode cX7_turn 100 = .ok (.iload_n 2, 1) := by decide +kernel
theorem dX7_turn_101 : decode cX7_turn 101 = .ok (.iconst 1, 1) := by decide +kernel
theorem dX7_turn_102 : decode cX7_turn 102 = .ok (.if_icmp .ne 10, 3) := by decide +kernel
theorem dX7_turn_105 : decode cX7_turn 105 = .ok (.iload_n 1, 1) := by decide +kernel
theorem dX7_turn_106 : decode cX7_turn 106 = .ok (.iload 4, 2) := by decide +kernel
theorem dX7_turn_108 : decode cX7_turn 108 = .ok (.idiv, 1) := by decide +kernel
theorem dX7_turn_109 : decode cX7_turn 109 = .ok (.goto 4, 3) := by decide +kernel
theorem dX7_turn_112 : decode cX7_turn 112 = .ok (.iload_n 3, 1) := by decide +kernel
theorem dX7_turn_113 : decode cX7_turn 113 = .ok (.ireturn, 1) := by decide +kernel
theorem dX7_twigsBy_0 : decode cX7_twigsBy 0 = .ok (.aload_n 0, 1) := by decide +kernel
theorem dX7_twigsBy_1 : decode cX7_twigsBy 1 = .ok (.invokevirtual 175, 3) := by decide +kernel
theorem dX7_twigsBy_4 : decode cX7_twigsBy 4 = .ok (.iconst 0, 1) := by decide +kernel
theorem dX7_twigsBy_5 : decode cX7_twigsBy 5 = .ok (.istore_n 2, 1) := by decide +kernel
theorem dX7_twigsBy_6 : decode cX7_twigsBy 6 = .ok (.iconst 0, 1) := by decide +kernel
theorem dX7_twigsBy_7 : decode cX7_twigsBy 7 = .ok (.istore_n 3, 1) := by decide +kernel
theorem dX7_twigsBy_8 : decode cX7_twigsBy 8 = .ok (.iload_n 3, 1) := by decide +kernel
theorem dX7_twigsBy_9 : decode cX7_twigsBy 9 = .ok (.iload_n 1, 1) := by decide +kernel
theorem dX7_twigsBy_10 : decode cX7_twigsBy 10 = .ok (.if_icmp .ge 49, 3) := by decide +kernel
theorem dX7_twigsBy_13 : decode cX7_twigsBy 13 = .ok (.iload_n 2, 1) := by decide +kernel
theorem dX7_twigsBy_14 : decode cX7_twigsBy 14 = .ok (.aload_n 0, 1) := by decide +kernel
theorem dX7_twigsBy_15 : decode cX7_twigsBy 15 = .ok (.getfield 56, 3) := by decide +kernel
theorem dX7_twigsBy_18 : decode cX7_twigsBy 18 = .ok (.iload_n 3, 1) := by decide +kernel
theorem dX7_twigsBy_19 : decode cX7_twigsBy 19 = .ok (.iaload, 1) := by decide +kernel
theorem dX7_twigsBy_20 : decode cX7_twigsBy 20 = .ok (.ifCond .ne 7, 3) := by decide +kernel
theorem dX7_twigsBy_23 : decode cX7_twigsBy 23 = .ok (.iconst 0, 1) := by decide +kernel
theorem dX7_twigsBy_24 : decode cX7_twigsBy 24 = .ok (.goto 19, 3) := by decide +kernel
theorem dX7_twigsBy_27 : decode cX7_twigsBy 27 = .ok (.aload_n 0, 1) := by decide +kernel
theorem dX7_twigsBy_28 : decode cX7_twigsBy 28 = .ok (.aload_n 0, 1) := by decide +kernel
theorem dX7_twigsBy_29 : decode cX7_twigsBy 29 = .ok (.getfield 34, 3) := by decide +kernel
theorem dX7_twigsBy_32 : decode cX7_twigsBy 32 = .ok (.aload_n 0, 1) := by decide +kernel
theorem dX7_twigsBy_33 : decode cX7_twigsBy 33 = .ok (.getfield 56, 3) := by decide +kernel
theorem dX7_twigsBy_36 : decode cX7_twigsBy 36 = .ok (.iload_n 3, 1) := by decide +kernel
theorem dX7_twigsBy_37 : decode cX7_twigsBy 37 = .ok (.iaload, 1) := by decide +kernel
theorem dX7_twigsBy_38 : decode cX7_twigsBy 38 = .ok (.iconst 1, 1) := by decide +kernel
theorem dX7_twigsBy_39 : decode cX7_twigsBy 39 = .ok (.isub, 1) := by decide +kernel
theorem dX7_twigsBy_40 : decode cX7_twigsBy 40 = .ok (.invokevirtual 155, 3) := by decide +kernel
theorem dX7_twigsBy_43 : decode cX7_twigsBy 43 = .ok (.iadd, 1) := by decide +kernel
theorem dX7_twigsBy_44 : decode cX7_twigsBy 44 = .ok (.istore_n 2, 1) := by decide +kernel
theorem dX7_twigsBy_45 : decode cX7_twigsBy 45 = .ok (.aload_n 0, 1) := by decide +kernel
theorem dX7_twigsBy_46 : decode cX7_twigsBy 46 = .ok (.aload_n 0, 1) := by decide +kernel
theorem dX7_twigsBy_47 : decode cX7_twigsBy 47 = .ok (.getfield 34, 3) := by decide +kernel
theorem dX7_twigsBy_50 : decode cX7_twigsBy 50 = .ok (.invokevirtual 158, 3) := by decide +kernel
theorem dX7_twigsBy_53 : decode cX7_twigsBy 53 = .ok (.iinc 3 1, 3) := by decide +kernel
theorem dX7_twigsBy_56 : decode cX7_twigsBy 56 = .ok (.goto (-48), 3) := by decide +kernel
theorem dX7_twigsBy_59 : decode cX7_twigsBy 59 = .ok (.iload_n 2, 1) := by decide +kernel
theorem dX7_twigsBy_60 : decode cX7_twigsBy 60 = .ok (.ireturn, 1) := by decide +kernel
theorem dX7_plan_0 : decode cX7_plan 0 = .ok (.aload_n 0, 1) := by decide +kernel
theorem dX7_plan_1 : decode cX7_plan 1 = .ok (.iconst 0, 1) := by decide +kernel
theorem dX7_plan_2 : decode cX7_plan 2 = .ok (.putfield 68, 3) := by decide +kernel
theorem dX7_plan_5 : decode cX7_plan 5 = .ok (.iload_n 1, 1) := by decide +kernel
theorem dX7_plan_6 : decode cX7_plan 6 = .ok (.iconst 1, 1) := by decide +kernel
theorem dX7_plan_7 : decode cX7_plan 7 = .ok (.iconst 4, 1) := by decide +kernel
theorem dX7_plan_8 : decode cX7_plan 8 = .ok (.invokestatic 72, 3) := by decide +kernel
theorem dX7_plan_11 : decode cX7_plan 11 = .ok (.ifCond .eq 12, 3) := by decide +kernel
theorem dX7_plan_14 : decode cX7_plan 14 = .ok (.iload_n 2, 1) := by decide +kernel
theorem dX7_plan_15 : decode cX7_plan 15 = .ok (.iconst (-1), 1) := by decide +kernel
theorem dX7_plan_16 : decode cX7_plan 16 = .ok (.iconst 3, 1) := by decide +kernel
theorem dX7_plan_17 : decode cX7_plan 17 = .ok (.invokestatic 72, 3) := by decide +kernel
theorem dX7_plan_20 : decode cX7_plan 20 = .ok (.ifCond .ne 5, 3) := by decide +kernel
theorem dX7_plan_23 : decode cX7_plan 23 = .ok (.iconst (-1), 1) := by decide +kernel
theorem dX7_plan_24 : decode cX7_plan 24 = .ok (.ireturn, 1) := by decide +kernel
theorem dX7_plan_25 : decode cX7_plan 25 = .ok (.iconst 1, 1) := by decide +kernel
theorem dX7_plan_26 : decode cX7_plan 26 = .ok (.istore_n 3, 1) := by decide +kernel
theorem dX7_plan_27 : decode cX7_plan 27 = .ok (.iconst 0, 1) := by decide +kernel
theorem dX7_plan_28 : decode cX7_plan 28 = .ok (.istore 4, 2) := by decide +kernel
theorem dX7_plan_30 : decode cX7_plan 30 = .ok (.iload 4, 2) := by decide +kernel
theorem dX7_plan_32 : decode cX7_plan 32 = .ok (.iload_n 1, 1) := by decide +kernel
theorem dX7_plan_33 : decode cX7_plan 33 = .ok (.if_icmp .ge 20, 3) := by decide +kernel
theorem dX7_plan_36 : decode cX7_plan 36 = .ok (.iload_n 3, 1) := by decide +kernel
theorem dX7_plan_37 : decode cX7_plan 37 = .ok (.aload_n 0, 1) := by decide +kernel
theorem dX7_plan_38 : decode cX7_plan 38 = .ok (.getfield 13, 3) := by decide +kernel
theorem dX7_plan_41 : decode cX7_plan 41 = .ok (.iconst 0, 1) := by decide +kernel
theorem dX7_plan_42 : decode cX7_plan 42 = .ok (.iaload, 1) := by decide +kernel
theorem dX7_plan_43 : decode cX7_plan 43 = .ok (.iconst 1, 1) := by decide +kernel
theorem dX7_plan_44 : decode cX7_plan 44 = .ok (.iadd, 1) := by decide +kernel
theorem dX7_plan_45 : decode cX7_plan 45 = .ok (.imul, 1) := by decide +kernel
theorem dX7_plan_46 : decode cX7_plan 46 = .ok (.istore_n 3, 1) := by decide +kernel
theorem dX7_plan_47 : decode cX7_plan 47 = .ok (.iinc 4 1, 3) := by decide +kernel
theorem dX7_plan_50 : decode cX7_plan 50 = .ok (.goto (-20), 3) := by decide +kernel
theorem dX7_plan_53 : decode cX7_plan 53 = .ok (.bipush (-9), 2) := by decide +kernel
theorem dX7_plan_55 : decode cX7_plan 55 = .ok (.istore 4, 2) := by decide +kernel
theorem dX7_plan_57 : decode cX7_plan 57 = .ok (.iconst 0, 1) := by decide +kernel
theorem dX7_plan_58 : decode cX7_plan 58 = .ok (.istore 5, 2) := by decide +kernel
theorem dX7_plan_60 : decode cX7_plan 60 = .ok (.iload 5, 2) := by decide +kernel
theorem dX7_plan_62 : decode cX7_plan 62 = .ok (.iload_n 3, 1) := by decide +kernel
theorem dX7_plan_63 : decode cX7_plan 63 = .ok (.if_icmp .ge 107, 3) := by decide +kernel
theorem dX7_plan_66 : decode cX7_plan 66 = .ok (.iload 5, 2) := by decide +kernel
theorem dX7_plan_68 : decode cX7_plan 68 = .ok (.istore 6, 2) := by decide +kernel
theorem dX7_plan_70 : decode cX7_plan 70 = .ok (.iload_n 1, 1) := by decide +kernel
theorem dX7_plan_71 : decode cX7_plan 71 = .ok (.iconst 1, 1) := by decide +kernel
theorem dX7_plan_72 : decode cX7_plan 72 = .ok (.isub, 1) := by decide +kernel
theorem dX7_plan_73 : decode cX7_plan 73 = .ok (.istore 7, 2) := by decide +kernel
theorem dX7_plan_75 : decode cX7_plan 75 = .ok (.iload 7, 2) := by decide +kernel
theorem dX7_plan_77 : decode cX7_plan 77 = .ok (.ifCond .lt 40, 3) := by decide +kernel
theorem dX7_plan_80 : decode cX7_plan 80 = .ok (.aload_n 0, 1) := by decide +kernel
theorem dX7_plan_81 : decode cX7_plan 81 = .ok (.getfield 56, 3) := by decide +kernel
theorem dX7_plan_84 : decode cX7_plan 84 = .ok (.iload 7, 2) := by decide +kernel
theorem dX7_plan_86 : decode cX7_plan 86 = .ok (.iload 6, 2) := by decide +kernel
theorem dX7_plan_88 : decode cX7_plan 88 = .ok (.aload_n 0, 1) := by decide +kernel
theorem dX7_plan_89 : decode cX7_plan 89 = .ok (.getfield 13, 3) := by decide +kernel
theorem dX7_plan_92 : decode cX7_plan 92 = .ok (.iconst 0, 1) := by decide +kernel
theorem dX7_plan_93 : decode cX7_plan 93 = .ok (.iaload, 1) := by decide +kernel
theorem dX7_plan_94 : decode cX7_plan 94 = .ok (.iconst 1, 1) := by decide +kernel
theorem dX7_plan_95 : decode cX7_plan 95 = .ok (.iadd, 1) := by decide +kernel
theorem dX7_plan_96 : decode cX7_plan 96 = .ok (.irem, 1) := by decide +kernel
theorem dX7_plan_97 : decode cX7_plan 97 = .ok (.iastore, 1) := by decide +kernel
theorem dX7_plan_98 : decode cX7_plan 98 = .ok (.iload 6, 2) := by decide +kernel
theorem dX7_plan_100 : decode cX7_plan 100 = .ok (.aload_n 0, 1) := by decide +kernel
theorem dX7_plan_101 : decode cX7_plan 101 = .ok (.getfield 13, 3) := by decide +kernel
theorem dX7_plan_104 : decode cX7_plan 104 = .ok (.iconst 0, 1) := by decide +kernel
theorem dX7_plan_105 : decode cX7_plan 105 = .ok (.iaload, 1) := by decide +kernel
theorem dX7_plan_106 : decode cX7_plan 106 = .ok (.iconst 1, 1) := by decide +kernel
theorem dX7_plan_107 : decode cX7_plan 107 = .ok (.iadd, 1) := by decide +kernel
theorem dX7_plan_108 : decode cX7_plan 108 = .ok (.idiv, 1) := by decide +kernel
theorem dX7_plan_109 : decode cX7_plan 109 = .ok (.istore 6, 2) := by decide +kernel
theorem dX7_plan_111 : decode cX7_plan 111 = .ok (.iinc 7 (-1), 3) := by decide +kernel
theorem dX7_plan_114 : decode cX7_plan 114 = .ok (.goto (-39), 3) := by decide +kernel
theorem dX7_plan_117 : decode cX7_plan 117 = .ok (.aload_n 0, 1) := by decide +kernel
theorem dX7_plan_118 : decode cX7_plan 118 = .ok (.iload_n 1, 1) := by decide +kernel
theorem dX7_plan_119 : decode cX7_plan 119 = .ok (.invokevirtual 178, 3) := by decide +kernel
theorem dX7_plan_122 : decode cX7_plan 122 = .ok (.istore 7, 2) := by decide +kernel
theorem dX7_plan_124 : decode cX7_plan 124 = .ok (.iload 7, 2) := by decide +kernel
theorem dX7_plan_126 : decode cX7_plan 126 = .ok (.iload 4, 2) := by decide +kernel
theorem dX7_plan_128 : decode cX7_plan 128 = .ok (.if_icmp .le 36, 3) := by decide +kernel
theorem dX7_plan_131 : decode cX7_plan 131 = .ok (.iload 7, 2) := by decide +kernel
theorem dX7_plan_133 : decode cX7_plan 133 = .ok (.istore 4, 2) := by decide +kernel
theorem dX7_plan_135 : decode cX7_plan 135 = .ok (.iconst 0, 1) := by decide +kernel
theorem dX7_plan_136 : decode cX7_plan 136 = .ok (.istore 8, 2) := by decide +kernel
theorem dX7_plan_138 : decode cX7_plan 138 = .ok (.iload 8, 2) := by decide +kernel
theorem dX7_plan_140 : decode cX7_plan 140 = .ok (.iload_n 1, 1) := by decide +kernel
theorem dX7_plan_141 : decode cX7_plan 141 = .ok (.if_icmp .ge 23, 3) := by decide +kernel
theorem dX7_plan_144 : decode cX7_plan 144 = .ok (.aload_n 0, 1) := by decide +kernel
theorem dX7_plan_145 : decode cX7_plan 145 = .ok (.getfield 59, 3) := by decide +kernel
theorem dX7_plan_148 : decode cX7_plan 148 = .ok (.iload 8, 2) := by decide +kernel
theorem dX7_plan_150 : decode cX7_plan 150 = .ok (.aload_n 0, 1) := by decide +kernel
theorem dX7_plan_151 : decode cX7_plan 151 = .ok (.getfield 56, 3) := by decide +kernel
theorem dX7_plan_154 : decode cX7_plan 154 = .ok (.iload 8, 2) := by decide +kernel
theorem dX7_plan_156 : decode cX7_plan 156 = .ok (.iaload, 1) := by decide +kernel
theorem dX7_plan_157 : decode cX7_plan 157 = .ok (.iastore, 1) := by decide +kernel
theorem dX7_plan_158 : decode cX7_plan 158 = .ok (.iinc 8 1, 3) := by decide +kernel
theorem dX7_plan_161 : decode cX7_plan 161 = .ok (.goto (-23), 3) := by decide +kernel
theorem dX7_plan_164 : decode cX7_plan 164 = .ok (.iinc 5 1, 3) := by decide +kernel
theorem dX7_plan_167 : decode cX7_plan 167 = .ok (.goto (-107), 3) := by decide +kernel
theorem dX7_plan_170 : decode cX7_plan 170 = .ok (.iload_n 2, 1) := by decide +kernel
theorem dX7_plan_171 : decode cX7_plan 171 = .ok (.iconst (-1), 1) := by decide +kernel
theorem dX7_plan_172 : decode cX7_plan 172 = .ok (.if_icmp .ne 8, 3) := by decide +kernel
theorem dX7_plan_175 : decode cX7_plan 175 = .ok (.iload 4, 2) := by decide +kernel
theorem dX7_plan_177 : decode cX7_plan 177 = .ok (.goto 35, 3) := by decide +kernel
theorem dX7_plan_180 : decode cX7_plan 180 = .ok (.iload_n 2, 1) := by decide +kernel
theorem dX7_plan_181 : decode cX7_plan 181 = .ok (.iload_n 1, 1) := by decide +kernel
theorem dX7_plan_182 : decode cX7_plan 182 = .ok (.if_icmp .lt 8, 3) := by decide +kernel
theorem dX7_plan_185 : decode cX7_plan 185 = .ok (.bipush (-9), 2) := by decide +kernel
theorem dX7_plan_187 : decode cX7_plan 187 = .ok (.goto 25, 3) := by decide +kernel
theorem dX7_plan_190 : decode cX7_plan 190 = .ok (.aload_n 0, 1) := by decide +kernel
theorem dX7_plan_191 : decode cX7_plan 191 = .ok (.getfield 59, 3) := by decide +kernel
theorem dX7_plan_194 : decode cX7_plan 194 = .ok (.iload_n 2, 1) := by decide +kernel
theorem dX7_plan_195 : decode cX7_plan 195 = .ok (.iaload, 1) := by decide +kernel
theorem dX7_plan_196 : decode cX7_plan 196 = .ok (.ifCond .ne 8, 3) := by decide +kernel
theorem dX7_plan_199 : decode cX7_plan 199 = .ok (.bipush (-5), 2) := by decide +kernel
theorem dX7_plan_201 : decode cX7_plan 201 = .ok (.goto 11, 3) := by decide +kernel
theorem dX7_plan_204 : decode cX7_plan 204 = .ok (.aload_n 0, 1) := by decide +kernel
theorem dX7_plan_205 : decode cX7_plan 205 = .ok (.getfield 59, 3) := by decide +kernel
theorem dX7_plan_208 : decode cX7_plan 208 = .ok (.iload_n 2, 1) := by decide +kernel
theorem dX7_plan_209 : decode cX7_plan 209 = .ok (.iaload, 1) := by decide +kernel
theorem dX7_plan_210 : decode cX7_plan 210 = .ok (.iconst 1, 1) := by decide +kernel
theorem dX7_plan_211 : decode cX7_plan 211 = .ok (.isub, 1) := by decide +kernel
theorem dX7_plan_212 : decode cX7_plan 212 = .ok (.ireturn, 1) := by decide +kernel
theorem dX7_besomsBy_0 : decode cX7_besomsBy 0 = .ok (.iconst 0, 1) := by decide +kernel
theorem dX7_besomsBy_1 : decode cX7_besomsBy 1 = .ok (.istore_n 3, 1) := by decide +kernel
theorem dX7_besomsBy_2 : decode cX7_besomsBy 2 = .ok (.iconst 0, 1) := by decide +kernel
theorem dX7_besomsBy_3 : decode cX7_besomsBy 3 = .ok (.istore 4, 2) := by decide +kernel
theorem dX7_besomsBy_5 : decode cX7_besomsBy 5 = .ok (.iload 4, 2) := by decide +kernel
theorem dX7_besomsBy_7 : decode cX7_besomsBy 7 = .ok (.aload_n 0, 1) := by decide +kernel
theorem dX7_besomsBy_8 : decode cX7_besomsBy 8 = .ok (.getfield 13, 3) := by decide +kernel
theorem dX7_besomsBy_11 : decode cX7_besomsBy 11 = .ok (.iconst 1, 1) := by decide +kernel
theorem dX7_besomsBy_12 : decode cX7_besomsBy 12 = .ok (.iaload, 1) := by decide +kernel
theorem dX7_besomsBy_13 : decode cX7_besomsBy 13 = .ok (.if_icmp .ge 44, 3) := by decide +kernel
theorem dX7_besomsBy_16 : decode cX7_besomsBy 16 = .ok (.iload_n 3, 1) := by decide +kernel
theorem dX7_besomsBy_17 : decode cX7_besomsBy 17 = .ok (.iload_n 1, 1) := by decide +kernel
theorem dX7_besomsBy_18 : decode cX7_besomsBy 18 = .ok (.iload 4, 2) := by decide +kernel
theorem dX7_besomsBy_20 : decode cX7_besomsBy 20 = .ok (.ishr, 1) := by decide +kernel
theorem dX7_besomsBy_21 : decode cX7_besomsBy 21 = .ok (.iconst 1, 1) := by decide +kernel
theorem dX7_besomsBy_22 : decode cX7_besomsBy 22 = .ok (.iand, 1) := by decide +kernel
theorem dX7_besomsBy_23 : decode cX7_besomsBy 23 = .ok (.iconst 1, 1) := by decide +kernel
theorem dX7_besomsBy_24 : decode cX7_besomsBy 24 = .ok (.if_icmp .ne 24, 3) := by decide +kernel
theorem dX7_besomsBy_27 : decode cX7_besomsBy 27 = .ok (.aload_n 0, 1) := by decide +kernel
theorem dX7_besomsBy_28 : decode cX7_besomsBy 28 = .ok (.getfield 22, 3) := by decide +kernel
theorem dX7_besomsBy_31 : decode cX7_besomsBy 31 = .ok (.iload 4, 2) := by decide +kernel
theorem dX7_besomsBy_33 : decode cX7_besomsBy 33 = .ok (.iaload, 1) := by decide +kernel
theorem dX7_besomsBy_34 : decode cX7_besomsBy 34 = .ok (.iload_n 2, 1) := by decide +kernel
theorem dX7_besomsBy_35 : decode cX7_besomsBy 35 = .ok (.if_icmp .gt 13, 3) := by decide +kernel
theorem dX7_besomsBy_38 : decode cX7_besomsBy 38 = .ok (.aload_n 0, 1) := by decide +kernel
theorem dX7_besomsBy_39 : decode cX7_besomsBy 39 = .ok (.getfield 25, 3) := by decide +kernel
theorem dX7_besomsBy_42 : decode cX7_besomsBy 42 = .ok (.iload 4, 2) := by decide +kernel
theorem dX7_besomsBy_44 : decode cX7_besomsBy 44 = .ok (.iaload, 1) := by decide +kernel
theorem dX7_besomsBy_45 : decode cX7_besomsBy 45 = .ok (.goto 4, 3) := by decide +kernel
theorem dX7_besomsBy_48 : decode cX7_besomsBy 48 = .ok (.iconst 0, 1) := by decide +kernel
theorem dX7_besomsBy_49 : decode cX7_besomsBy 49 = .ok (.iadd, 1) := by decide +kernel
theorem dX7_besomsBy_50 : decode cX7_besomsBy 50 = .ok (.istore_n 3, 1) := by decide +kernel
theorem dX7_besomsBy_51 : decode cX7_besomsBy 51 = .ok (.iinc 4 1, 3) := by decide +kernel
theorem dX7_besomsBy_54 : decode cX7_besomsBy 54 = .ok (.goto (-49), 3) := by decide +kernel
theorem dX7_besomsBy_57 : decode cX7_besomsBy 57 = .ok (.iload_n 3, 1) := by decide +kernel
theorem dX7_besomsBy_58 : decode cX7_besomsBy 58 = .ok (.ireturn, 1) := by decide +kernel
theorem dX7_canBeKept_0 : decode cX7_canBeKept 0 = .ok (.aload_n 0, 1) := by decide +kernel
theorem dX7_canBeKept_1 : decode cX7_canBeKept 1 = .ok (.iload_n 1, 1) := by decide +kernel
theorem dX7_canBeKept_2 : decode cX7_canBeKept 2 = .ok (.bipush 60, 2) := by decide +kernel
theorem dX7_canBeKept_4 : decode cX7_canBeKept 4 = .ok (.invokevirtual 181, 3) := by decide +kernel
theorem dX7_canBeKept_7 : decode cX7_canBeKept 7 = .ok (.aload_n 0, 1) := by decide +kernel
theorem dX7_canBeKept_8 : decode cX7_canBeKept 8 = .ok (.getfield 31, 3) := by decide +kernel
theorem dX7_canBeKept_11 : decode cX7_canBeKept 11 = .ok (.iconst 3, 1) := by decide +kernel
theorem dX7_canBeKept_12 : decode cX7_canBeKept 12 = .ok (.iaload, 1) := by decide +kernel
theorem dX7_canBeKept_13 : decode cX7_canBeKept 13 = .ok (.isub, 1) := by decide +kernel
theorem dX7_canBeKept_14 : decode cX7_canBeKept 14 = .ok (.istore_n 2, 1) := by decide +kernel
theorem dX7_canBeKept_15 : decode cX7_canBeKept 15 = .ok (.iload_n 2, 1) := by decide +kernel
theorem dX7_canBeKept_16 : decode cX7_canBeKept 16 = .ok (.ifCond .le 20, 3) := by decide +kernel
theorem dX7_canBeKept_19 : decode cX7_canBeKept 19 = .ok (.iload_n 2, 1) := by decide +kernel
theorem dX7_canBeKept_20 : decode cX7_canBeKept 20 = .ok (.aload_n 0, 1) := by decide +kernel
theorem dX7_canBeKept_21 : decode cX7_canBeKept 21 = .ok (.getfield 13, 3) := by decide +kernel
theorem dX7_canBeKept_24 : decode cX7_canBeKept 24 = .ok (.iconst 3, 1) := by decide +kernel
theorem dX7_canBeKept_25 : decode cX7_canBeKept 25 = .ok (.iaload, 1) := by decide +kernel
theorem dX7_canBeKept_26 : decode cX7_canBeKept 26 = .ok (.imul, 1) := by decide +kernel
theorem dX7_canBeKept_27 : decode cX7_canBeKept 27 = .ok (.aload_n 0, 1) := by decide +kernel
theorem dX7_canBeKept_28 : decode cX7_canBeKept 28 = .ok (.getfield 31, 3) := by decide +kernel
theorem dX7_canBeKept_31 : decode cX7_canBeKept 31 = .ok (.iconst 2, 1) := by decide +kernel
theorem dX7_canBeKept_32 : decode cX7_canBeKept 32 = .ok (.iaload, 1) := by decide +kernel
theorem dX7_canBeKept_33 : decode cX7_canBeKept 33 = .ok (.if_icmp .gt 7, 3) := by decide +kernel
theorem dX7_canBeKept_36 : decode cX7_canBeKept 36 = .ok (.iconst 1, 1) := by decide +kernel
theorem dX7_canBeKept_37 : decode cX7_canBeKept 37 = .ok (.goto 4, 3) := by decide +kernel
theorem dX7_canBeKept_40 : decode cX7_canBeKept 40 = .ok (.iconst 0, 1) := by decide +kernel
theorem dX7_canBeKept_41 : decode cX7_canBeKept 41 = .ok (.istore_n 3, 1) := by decide +kernel
theorem dX7_canBeKept_42 : decode cX7_canBeKept 42 = .ok (.iconst 0, 1) := by decide +kernel
theorem dX7_canBeKept_43 : decode cX7_canBeKept 43 = .ok (.istore 4, 2) := by decide +kernel
theorem dX7_canBeKept_45 : decode cX7_canBeKept 45 = .ok (.iload 4, 2) := by decide +kernel
theorem dX7_canBeKept_47 : decode cX7_canBeKept 47 = .ok (.aload_n 0, 1) := by decide +kernel
theorem dX7_canBeKept_48 : decode cX7_canBeKept 48 = .ok (.getfield 13, 3) := by decide +kernel
theorem dX7_canBeKept_51 : decode cX7_canBeKept 51 = .ok (.iconst 1, 1) := by decide +kernel
theorem dX7_canBeKept_52 : decode cX7_canBeKept 52 = .ok (.iaload, 1) := by decide +kernel
theorem dX7_canBeKept_53 : decode cX7_canBeKept 53 = .ok (.if_icmp .ge 90, 3) := by decide +kernel
theorem dX7_canBeKept_56 : decode cX7_canBeKept 56 = .ok (.iload_n 1, 1) := by decide +kernel
theorem dX7_canBeKept_57 : decode cX7_canBeKept 57 = .ok (.iload 4, 2) := by decide +kernel
theorem dX7_canBeKept_59 : decode cX7_canBeKept 59 = .ok (.ishr, 1) := by decide +kernel
theorem dX7_canBeKept_60 : decode cX7_canBeKept 60 = .ok (.iconst 1, 1) := by decide +kernel
theorem dX7_canBeKept_61 : decode cX7_canBeKept 61 = .ok (.iand, 1) := by decide +kernel
theorem dX7_canBeKept_62 : decode cX7_canBeKept 62 = .ok (.iconst 1, 1) := by decide +kernel
theorem dX7_canBeKept_63 : decode cX7_canBeKept 63 = .ok (.if_icmp .ne 74, 3) := by decide +kernel
theorem dX7_canBeKept_66 : decode cX7_canBeKept 66 = .ok (.aload_n 0, 1) := by decide +kernel
theorem dX7_canBeKept_67 : decode cX7_canBeKept 67 = .ok (.getfield 22, 3) := by decide +kernel
theorem dX7_canBeKept_70 : decode cX7_canBeKept 70 = .ok (.iload 4, 2) := by decide +kernel
theorem dX7_canBeKept_72 : decode cX7_canBeKept 72 = .ok (.iaload, 1) := by decide +kernel
theorem dX7_canBeKept_73 : decode cX7_canBeKept 73 = .ok (.aload_n 0, 1) := by decide +kernel
theorem dX7_canBeKept_74 : decode cX7_canBeKept 74 = .ok (.getfield 31, 3) := by decide +kernel
theorem dX7_canBeKept_77 : decode cX7_canBeKept 77 = .ok (.iconst 0, 1) := by decide +kernel
theorem dX7_canBeKept_78 : decode cX7_canBeKept 78 = .ok (.iaload, 1) := by decide +kernel
theorem dX7_canBeKept_79 : decode cX7_canBeKept 79 = .ok (.isub, 1) := by decide +kernel
theorem dX7_canBeKept_80 : decode cX7_canBeKept 80 = .ok (.istore 5, 2) := by decide +kernel
theorem dX7_canBeKept_82 : decode cX7_canBeKept 82 = .ok (.iload_n 3, 1) := by decide +kernel
theorem dX7_canBeKept_83 : decode cX7_canBeKept 83 = .ok (.ifCond .eq 52, 3) := by decide +kernel
theorem dX7_canBeKept_86 : decode cX7_canBeKept 86 = .ok (.aload_n 0, 1) := by decide +kernel
theorem dX7_canBeKept_87 : decode cX7_canBeKept 87 = .ok (.iload 4, 2) := by decide +kernel
theorem dX7_canBeKept_89 : decode cX7_canBeKept 89 = .ok (.invokevirtual 149, 3) := by decide +kernel
theorem dX7_canBeKept_92 : decode cX7_canBeKept 92 = .ok (.ifCond .ne 43, 3) := by decide +kernel
theorem dX7_canBeKept_95 : decode cX7_canBeKept 95 = .ok (.iload 5, 2) := by decide +kernel
theorem dX7_canBeKept_97 : decode cX7_canBeKept 97 = .ok (.ifCond .lt 38, 3) := by decide +kernel
theorem dX7_canBeKept_100 : decode cX7_canBeKept 100 = .ok (.aload_n 0, 1) := by decide +kernel
theorem dX7_canBeKept_101 : decode cX7_canBeKept 101 = .ok (.iload_n 1, 1) := by decide +kernel
theorem dX7_canBeKept_102 : decode cX7_canBeKept 102 = .ok (.aload_n 0, 1) := by decide +kernel
theorem dX7_canBeKept_103 : decode cX7_canBeKept 103 = .ok (.getfield 22, 3) := by decide +kernel
theorem dX7_canBeKept_106 : decode cX7_canBeKept 106 = .ok (.iload 4, 2) := by decide +kernel
theorem dX7_canBeKept_108 : decode cX7_canBeKept 108 = .ok (.iaload, 1) := by decide +kernel
theorem dX7_canBeKept_109 : decode cX7_canBeKept 109 = .ok (.invokevirtual 181, 3) := by decide +kernel
theorem dX7_canBeKept_112 : decode cX7_canBeKept 112 = .ok (.aload_n 0, 1) := by decide +kernel
theorem dX7_canBeKept_113 : decode cX7_canBeKept 113 = .ok (.getfield 31, 3) := by decide +kernel
theorem dX7_canBeKept_116 : decode cX7_canBeKept 116 = .ok (.iconst 3, 1) := by decide +kernel
theorem dX7_canBeKept_117 : decode cX7_canBeKept 117 = .ok (.iaload, 1) := by decide +kernel
theorem dX7_canBeKept_118 : decode cX7_canBeKept 118 = .ok (.aload_n 0, 1) := by decide +kernel
theorem dX7_canBeKept_119 : decode cX7_canBeKept 119 = .ok (.getfield 13, 3) := by decide +kernel
theorem dX7_canBeKept_122 : decode cX7_canBeKept 122 = .ok (.iconst 4, 1) := by decide +kernel
theorem dX7_canBeKept_123 : decode cX7_canBeKept 123 = .ok (.iaload, 1) := by decide +kernel
theorem dX7_canBeKept_124 : decode cX7_canBeKept 124 = .ok (.iload 5, 2) := by decide +kernel
theorem dX7_canBeKept_126 : decode cX7_canBeKept 126 = .ok (.imul, 1) := by decide +kernel
theorem dX7_canBeKept_127 : decode cX7_canBeKept 127 = .ok (.iadd, 1) := by decide +kernel
theorem dX7_canBeKept_128 : decode cX7_canBeKept 128 = .ok (.if_icmp .gt 7, 3) := by decide +kernel
theorem dX7_canBeKept_131 : decode cX7_canBeKept 131 = .ok (.iconst 1, 1) := by decide +kernel
theorem dX7_canBeKept_132 : decode cX7_canBeKept 132 = .ok (.goto 4, 3) := by decide +kernel
theorem dX7_canBeKept_135 : decode cX7_canBeKept 135 = .ok (.iconst 0, 1) := by decide +kernel
theorem dX7_canBeKept_136 : decode cX7_canBeKept 136 = .ok (.istore_n 3, 1) := by decide +kernel
theorem dX7_canBeKept_137 : decode cX7_canBeKept 137 = .ok (.iinc 4 1, 3) := by decide +kernel
theorem dX7_canBeKept_140 : decode cX7_canBeKept 140 = .ok (.goto (-95), 3) := by decide +kernel
theorem dX7_canBeKept_143 : decode cX7_canBeKept 143 = .ok (.iload_n 3, 1) := by decide +kernel
theorem dX7_canBeKept_144 : decode cX7_canBeKept 144 = .ok (.ireturn, 1) := by decide +kernel
theorem dX7_coinsOf_0 : decode cX7_coinsOf 0 = .ok (.iconst 0, 1) := by decide +kernel
theorem dX7_coinsOf_1 : decode cX7_coinsOf 1 = .ok (.istore_n 2, 1) := by decide +kernel
theorem dX7_coinsOf_2 : decode cX7_coinsOf 2 = .ok (.iconst 0, 1) := by decide +kernel
theorem dX7_coinsOf_3 : decode cX7_coinsOf 3 = .ok (.istore_n 3, 1) := by decide +kernel
theorem dX7_coinsOf_4 : decode cX7_coinsOf 4 = .ok (.iload_n 3, 1) := by decide +kernel
theorem dX7_coinsOf_5 : decode cX7_coinsOf 5 = .ok (.aload_n 0, 1) := by decide +kernel
theorem dX7_coinsOf_6 : decode cX7_coinsOf 6 = .ok (.getfield 13, 3) := by decide +kernel
theorem dX7_coinsOf_9 : decode cX7_coinsOf 9 = .ok (.iconst 1, 1) := by decide +kernel
theorem dX7_coinsOf_10 : decode cX7_coinsOf 10 = .ok (.iaload, 1) := by decide +kernel
theorem dX7_coinsOf_11 : decode cX7_coinsOf 11 = .ok (.if_icmp .ge 31, 3) := by decide +kernel
theorem dX7_coinsOf_14 : decode cX7_coinsOf 14 = .ok (.iload_n 2, 1) := by decide +kernel
theorem dX7_coinsOf_15 : decode cX7_coinsOf 15 = .ok (.iload_n 1, 1) := by decide +kernel
theorem dX7_coinsOf_16 : decode cX7_coinsOf 16 = .ok (.iload_n 3, 1) := by decide +kernel
theorem dX7_coinsOf_17 : decode cX7_coinsOf 17 = .ok (.ishr, 1) := by decide +kernel
theorem dX7_coinsOf_18 : decode cX7_coinsOf 18 = .ok (.iconst 1, 1) := by decide +kernel
theorem dX7_coinsOf_19 : decode cX7_coinsOf 19 = .ok (.iand, 1) := by decide +kernel
theorem dX7_coinsOf_20 : decode cX7_coinsOf 20 = .ok (.iconst 1, 1) := by decide +kernel
theorem dX7_coinsOf_21 : decode cX7_coinsOf 21 = .ok (.if_icmp .ne 12, 3) := by decide +kernel
theorem dX7_coinsOf_24 : decode cX7_coinsOf 24 = .ok (.aload_n 0, 1) := by decide +kernel
theorem dX7_coinsOf_25 : decode cX7_coinsOf 25 = .ok (.getfield 28, 3) := by decide +kernel
theorem dX7_coinsOf_28 : decode cX7_coinsOf 28 = .ok (.iload_n 3, 1) := by decide +kernel
theorem dX7_coinsOf_29 : decode cX7_coinsOf 29 = .ok (.iaload, 1) := by decide +kernel
theorem dX7_coinsOf_30 : decode cX7_coinsOf 30 = .ok (.goto 4, 3) := by decide +kernel
theorem dX7_coinsOf_33 : decode cX7_coinsOf 33 = .ok (.iconst 0, 1) := by decide +kernel
theorem dX7_coinsOf_34 : decode cX7_coinsOf 34 = .ok (.iadd, 1) := by decide +kernel
theorem dX7_coinsOf_35 : decode cX7_coinsOf 35 = .ok (.istore_n 2, 1) := by decide +kernel
theorem dX7_coinsOf_36 : decode cX7_coinsOf 36 = .ok (.iinc 3 1, 3) := by decide +kernel
theorem dX7_coinsOf_39 : decode cX7_coinsOf 39 = .ok (.goto (-35), 3) := by decide +kernel
theorem dX7_coinsOf_42 : decode cX7_coinsOf 42 = .ok (.iload_n 2, 1) := by decide +kernel
theorem dX7_coinsOf_43 : decode cX7_coinsOf 43 = .ok (.ireturn, 1) := by decide +kernel
theorem dX7_kept_0 : decode cX7_kept 0 = .ok (.aload_n 0, 1) := by decide +kernel
theorem dX7_kept_1 : decode cX7_kept 1 = .ok (.iconst 0, 1) := by decide +kernel
theorem dX7_kept_2 : decode cX7_kept 2 = .ok (.putfield 68, 3) := by decide +kernel
theorem dX7_kept_5 : decode cX7_kept 5 = .ok (.iload_n 1, 1) := by decide +kernel
theorem dX7_kept_6 : decode cX7_kept 6 = .ok (.iconst 0, 1) := by decide +kernel
theorem dX7_kept_7 : decode cX7_kept 7 = .ok (.iconst 1, 1) := by decide +kernel
theorem dX7_kept_8 : decode cX7_kept 8 = .ok (.invokestatic 72, 3) := by decide +kernel
theorem dX7_kept_11 : decode cX7_kept 11 = .ok (.ifCond .ne 5, 3) := by decide +kernel
theorem dX7_kept_14 : decode cX7_kept 14 = .ok (.iconst (-1), 1) := by decide +kernel
theorem dX7_kept_15 : decode cX7_kept 15 = .ok (.ireturn, 1) := by decide +kernel
theorem dX7_kept_16 : decode cX7_kept 16 = .ok (.iconst 0, 1) := by decide +kernel
theorem dX7_kept_17 : decode cX7_kept 17 = .ok (.istore_n 2, 1) := by decide +kernel
theorem dX7_kept_18 : decode cX7_kept 18 = .ok (.iconst 1, 1) := by decide +kernel
theorem dX7_kept_19 : decode cX7_kept 19 = .ok (.istore_n 3, 1) := by decide +kernel
theorem dX7_kept_20 : decode cX7_kept 20 = .ok (.iload_n 3, 1) := by decide +kernel
theorem dX7_kept_21 : decode cX7_kept 21 = .ok (.iconst 1, 1) := by decide +kernel
theorem dX7_kept_22 : decode cX7_kept 22 = .ok (.aload_n 0, 1) := by decide +kernel
theorem dX7_kept_23 : decode cX7_kept 23 = .ok (.getfield 13, 3) := by decide +kernel
theorem dX7_kept_26 : decode cX7_kept 26 = .ok (.iconst 1, 1) := by decide +kernel
theorem dX7_kept_27 : decode cX7_kept 27 = .ok (.iaload, 1) := by decide +kernel
theorem dX7_kept_28 : decode cX7_kept 28 = .ok (.ishl, 1) := by decide +kernel
theorem dX7_kept_29 : decode cX7_kept 29 = .ok (.if_icmp .ge 36, 3) := by decide +kernel
theorem dX7_kept_32 : decode cX7_kept 32 = .ok (.aload_n 0, 1) := by decide +kernel
theorem dX7_kept_33 : decode cX7_kept 33 = .ok (.iload_n 3, 1) := by decide +kernel
theorem dX7_kept_34 : decode cX7_kept 34 = .ok (.invokevirtual 184, 3) := by decide +kernel
theorem dX7_kept_37 : decode cX7_kept 37 = .ok (.aload_n 0, 1) := by decide +kernel
theorem dX7_kept_38 : decode cX7_kept 38 = .ok (.iload_n 2, 1) := by decide +kernel
theorem dX7_kept_39 : decode cX7_kept 39 = .ok (.invokevirtual 184, 3) := by decide +kernel
theorem dX7_kept_42 : decode cX7_kept 42 = .ok (.if_icmp .le 15, 3) := by decide +kernel
theorem dX7_kept_45 : decode cX7_kept 45 = .ok (.aload_n 0, 1) := by decide +kernel
theorem dX7_kept_46 : decode cX7_kept 46 = .ok (.iload_n 3, 1) := by decide +kernel
theorem dX7_kept_47 : decode cX7_kept 47 = .ok (.invokevirtual 187, 3) := by decide +kernel
theorem dX7_kept_50 : decode cX7_kept 50 = .ok (.ifCond .eq 7, 3) := by decide +kernel
theorem dX7_kept_53 : decode cX7_kept 53 = .ok (.iload_n 3, 1) := by decide +kernel
theorem dX7_kept_54 : decode cX7_kept 54 = .ok (.goto 4, 3) := by decide +kernel
theorem dX7_kept_57 : decode cX7_kept 57 = .ok (.iload_n 2, 1) := by decide +kernel
theorem dX7_kept_58 : decode cX7_kept 58 = .ok (.istore_n 2, 1) := by decide +kernel
theorem dX7_kept_59 : decode cX7_kept 59 = .ok (.iinc 3 1, 3) := by decide +kernel
theorem dX7_kept_62 : decode cX7_kept 62 = .ok (.goto (-42), 3) := by decide +kernel
theorem dX7_kept_65 : decode cX7_kept 65 = .ok (.iload_n 1, 1) := by decide +kernel
theorem dX7_kept_66 : decode cX7_kept 66 = .ok (.ifCond .ne 7, 3) := by decide +kernel
theorem dX7_kept_69 : decode cX7_kept 69 = .ok (.iload_n 2, 1) := by decide +kernel
theorem dX7_kept_70 : decode cX7_kept 70 = .ok (.goto 8, 3) := by decide +kernel
theorem dX7_kept_73 : decode cX7_kept 73 = .ok (.aload_n 0, 1) := by decide +kernel
theorem dX7_kept_74 : decode cX7_kept 74 = .ok (.iload_n 2, 1) := by decide +kernel
theorem dX7_kept_75 : decode cX7_kept 75 = .ok (.invokevirtual 184, 3) := by decide +kernel
theorem dX7_kept_78 : decode cX7_kept 78 = .ok (.ireturn, 1) := by decide +kernel
theorem dX7_next_0 : decode cX7_next 0 = .ok (.aload_n 0, 1) := by decide +kernel
theorem dX7_next_1 : decode cX7_next 1 = .ok (.iconst 0, 1) := by decide +kernel
theorem dX7_next_2 : decode cX7_next 2 = .ok (.putfield 68, 3) := by decide +kernel
theorem dX7_next_5 : decode cX7_next 5 = .ok (.iload_n 1, 1) := by decide +kernel
theorem dX7_next_6 : decode cX7_next 6 = .ok (.iconst 0, 1) := by decide +kernel
theorem dX7_next_7 : decode cX7_next 7 = .ok (.iconst 1, 1) := by decide +kernel
theorem dX7_next_8 : decode cX7_next 8 = .ok (.invokestatic 72, 3) := by decide +kernel
theorem dX7_next_11 : decode cX7_next 11 = .ok (.ifCond .ne 5, 3) := by decide +kernel
theorem dX7_next_14 : decode cX7_next 14 = .ok (.iconst (-1), 1) := by decide +kernel
theorem dX7_next_15 : decode cX7_next 15 = .ok (.ireturn, 1) := by decide +kernel
theorem dX7_next_16 : decode cX7_next 16 = .ok (.bipush (-9), 2) := by decide +kernel
theorem dX7_next_18 : decode cX7_next 18 = .ok (.istore_n 2, 1) := by decide +kernel
theorem dX7_next_19 : decode cX7_next 19 = .ok (.iconst 0, 1) := by decide +kernel
theorem dX7_next_20 : decode cX7_next 20 = .ok (.istore_n 3, 1) := by decide +kernel
theorem dX7_next_21 : decode cX7_next 21 = .ok (.iload_n 3, 1) := by decide +kernel
theorem dX7_next_22 : decode cX7_next 22 = .ok (.aload_n 0, 1) := by decide +kernel
theorem dX7_next_23 : decode cX7_next 23 = .ok (.getfield 13, 3) := by decide +kernel
theorem dX7_next_26 : decode cX7_next 26 = .ok (.iconst 1, 1) := by decide +kernel
theorem dX7_next_27 : decode cX7_next 27 = .ok (.iaload, 1) := by decide +kernel
theorem dX7_next_28 : decode cX7_next 28 = .ok (.if_icmp .ge 92, 3) := by decide +kernel
theorem dX7_next_31 : decode cX7_next 31 = .ok (.iload_n 2, 1) := by decide +kernel
theorem dX7_next_32 : decode cX7_next 32 = .ok (.bipush (-9), 2) := by decide +kernel
theorem dX7_next_34 : decode cX7_next 34 = .ok (.if_icmp .eq 54, 3) := by decide +kernel
theorem dX7_next_37 : decode cX7_next 37 = .ok (.iload_n 1, 1) := by decide +kernel
theorem dX7_next_38 : decode cX7_next 38 = .ok (.ifCond .ne 21, 3) := by decide +kernel
theorem dX7_next_41 : decode cX7_next 41 = .ok (.aload_n 0, 1) := by decide +kernel
theorem dX7_next_42 : decode cX7_next 42 = .ok (.getfield 22, 3) := by decide +kernel
theorem dX7_next_45 : decode cX7_next 45 = .ok (.iload_n 3, 1) := by decide +kernel
theorem dX7_next_46 : decode cX7_next 46 = .ok (.iaload, 1) := by decide +kernel
theorem dX7_next_47 : decode cX7_next 47 = .ok (.aload_n 0, 1) := by decide +kernel
theorem dX7_next_48 : decode cX7_next 48 = .ok (.getfield 22, 3) := by decide +kernel
theorem dX7_next_51 : decode cX7_next 51 = .ok (.iload_n 2, 1) := by decide +kernel
theorem dX7_next_52 : decode cX7_next 52 = .ok (.iaload, 1) := by decide +kernel
theorem dX7_next_53 : decode cX7_next 53 = .ok (.if_icmp .ge 39, 3) := by decide +kernel
theorem dX7_next_56 : decode cX7_next 56 = .ok (.goto 32, 3) := by decide +kernel
theorem dX7_next_59 : decode cX7_next 59 = .ok (.aload_n 0, 1) := by decide +kernel
theorem dX7_next_60 : decode cX7_next 60 = .ok (.getfield 28, 3) := by decide +kernel
theorem dX7_next_63 : decode cX7_next 63 = .ok (.iload_n 3, 1) := by decide +kernel
theorem dX7_next_64 : decode cX7_next 64 = .ok (.iaload, 1) := by decide +kernel
theorem dX7_next_65 : decode cX7_next 65 = .ok (.aload_n 0, 1) := by decide +kernel
theorem dX7_next_66 : decode cX7_next 66 = .ok (.getfield 25, 3) := by decide +kernel
theorem dX7_next_69 : decode cX7_next 69 = .ok (.iload_n 2, 1) := by decide +kernel
theorem dX7_next_70 : decode cX7_next 70 = .ok (.iaload, 1) := by decide +kernel
theorem dX7_next_71 : decode cX7_next 71 = .ok (.imul, 1) := by decide +kernel
theorem dX7_next_72 : decode cX7_next 72 = .ok (.aload_n 0, 1) := by decide +kernel
theorem dX7_next_73 : decode cX7_next 73 = .ok (.getfield 28, 3) := by decide +kernel
theorem dX7_next_76 : decode cX7_next 76 = .ok (.iload_n 2, 1) := by decide +kernel
theorem dX7_next_77 : decode cX7_next 77 = .ok (.iaload, 1) := by decide +kernel
theorem dX7_next_78 : decode cX7_next 78 = .ok (.aload_n 0, 1) := by decide +kernel
theorem dX7_next_79 : decode cX7_next 79 = .ok (.getfield 25, 3) := by decide +kernel
theorem dX7_next_82 : decode cX7_next 82 = .ok (.iload_n 3, 1) := by decide +kernel
theorem dX7_next_83 : decode cX7_next 83 = .ok (.iaload, 1) := by decide +kernel
theorem dX7_next_84 : decode cX7_next 84 = .ok (.imul, 1) := by decide +kernel
theorem dX7_next_85 : decode cX7_next 85 = .ok (.if_icmp .le 7, 3) := by decide +kernel
theorem dX7_next_88 : decode cX7_next 88 = .ok (.iconst 1, 1) := by decide +kernel
theorem dX7_next_89 : decode cX7_next 89 = .ok (.goto 4, 3) := by decide +kernel
theorem dX7_next_92 : decode cX7_next 92 = .ok (.iconst 0, 1) := by decide +kernel
theorem dX7_next_93 : decode cX7_next 93 = .ok (.istore 4, 2) := by decide +kernel
theorem dX7_next_95 : decode cX7_next 95 = .ok (.iload 4, 2) := by decide +kernel
theorem dX7_next_97 : decode cX7_next 97 = .ok (.ifCond .eq 15, 3) := by decide +kernel
theorem dX7_next_100 : decode cX7_next 100 = .ok (.aload_n 0, 1) := by decide +kernel
theorem dX7_next_101 : decode cX7_next 101 = .ok (.iload_n 3, 1) := by decide +kernel
theorem dX7_next_102 : decode cX7_next 102 = .ok (.invokevirtual 149, 3) := by decide +kernel
theorem dX7_next_105 : decode cX7_next 105 = .ok (.ifCond .ne 7, 3) := by decide +kernel
theorem dX7_next_108 : decode cX7_next 108 = .ok (.iload_n 3, 1) := by decide +kernel
theorem dX7_next_109 : decode cX7_next 109 = .ok (.goto 4, 3) := by decide +kernel
theorem dX7_next_112 : decode cX7_next 112 = .ok (.iload_n 2, 1) := by decide +kernel
theorem dX7_next_113 : decode cX7_next 113 = .ok (.istore_n 2, 1) := by decide +kernel
theorem dX7_next_114 : decode cX7_next 114 = .ok (.iinc 3 1, 3) := by decide +kernel
theorem dX7_next_117 : decode cX7_next 117 = .ok (.goto (-96), 3) := by decide +kernel
theorem dX7_next_120 : decode cX7_next 120 = .ok (.iload_n 2, 1) := by decide +kernel
theorem dX7_next_121 : decode cX7_next 121 = .ok (.ireturn, 1) := by decide +kernel
theorem dX7_wanted_0 : decode cX7_wanted 0 = .ok (.aload_n 0, 1) := by decide +kernel
theorem dX7_wanted_1 : decode cX7_wanted 1 = .ok (.iconst 1, 1) := by decide +kernel
theorem dX7_wanted_2 : decode cX7_wanted 2 = .ok (.aload_n 0, 1) := by decide +kernel
theorem dX7_wanted_3 : decode cX7_wanted 3 = .ok (.getfield 13, 3) := by decide +kernel
theorem dX7_wanted_6 : decode cX7_wanted 6 = .ok (.iconst 1, 1) := by decide +kernel
theorem dX7_wanted_7 : decode cX7_wanted 7 = .ok (.iaload, 1) := by decide +kernel
theorem dX7_wanted_8 : decode cX7_wanted 8 = .ok (.ishl, 1) := by decide +kernel
theorem dX7_wanted_9 : decode cX7_wanted 9 = .ok (.iconst 1, 1) := by decide +kernel
theorem dX7_wanted_10 : decode cX7_wanted 10 = .ok (.isub, 1) := by decide +kernel
theorem dX7_wanted_11 : decode cX7_wanted 11 = .ok (.aload_n 0, 1) := by decide +kernel
theorem dX7_wanted_12 : decode cX7_wanted 12 = .ok (.getfield 31, 3) := by decide +kernel
theorem dX7_wanted_15 : decode cX7_wanted 15 = .ok (.iconst 5, 1) := by decide +kernel
theorem dX7_wanted_16 : decode cX7_wanted 16 = .ok (.iaload, 1) := by decide +kernel
theorem dX7_wanted_17 : decode cX7_wanted 17 = .ok (.iconst (-1), 1) := by decide +kernel
theorem dX7_wanted_18 : decode cX7_wanted 18 = .ok (.ixor, 1) := by decide +kernel
theorem dX7_wanted_19 : decode cX7_wanted 19 = .ok (.iand, 1) := by decide +kernel
theorem dX7_wanted_20 : decode cX7_wanted 20 = .ok (.bipush 60, 2) := by decide +kernel
theorem dX7_wanted_22 : decode cX7_wanted 22 = .ok (.invokevirtual 181, 3) := by decide +kernel
theorem dX7_wanted_25 : decode cX7_wanted 25 = .ok (.aload_n 0, 1) := by decide +kernel
theorem dX7_wanted_26 : decode cX7_wanted 26 = .ok (.getfield 31, 3) := by decide +kernel
theorem dX7_wanted_29 : decode cX7_wanted 29 = .ok (.iconst 3, 1) := by decide +kernel
theorem dX7_wanted_30 : decode cX7_wanted 30 = .ok (.iaload, 1) := by decide +kernel
theorem dX7_wanted_31 : decode cX7_wanted 31 = .ok (.isub, 1) := by decide +kernel
theorem dX7_wanted_32 : decode cX7_wanted 32 = .ok (.istore_n 1, 1) := by decide +kernel
theorem dX7_wanted_33 : decode cX7_wanted 33 = .ok (.iload_n 1, 1) := by decide +kernel
theorem dX7_wanted_34 : decode cX7_wanted 34 = .ok (.ifCond .ge 7, 3) := by decide +kernel
theorem dX7_wanted_37 : decode cX7_wanted 37 = .ok (.iconst 0, 1) := by decide +kernel
theorem dX7_wanted_38 : decode cX7_wanted 38 = .ok (.goto 4, 3) := by decide +kernel
theorem dX7_wanted_41 : decode cX7_wanted 41 = .ok (.iload_n 1, 1) := by decide +kernel
theorem dX7_wanted_42 : decode cX7_wanted 42 = .ok (.ireturn, 1) := by decide +kernel
theorem dX7_lacks_0 : decode cX7_lacks 0 = .ok (.aload_n 0, 1) := by decide +kernel
theorem dX7_lacks_1 : decode cX7_lacks 1 = .ok (.invokevirtual 190, 3) := by decide +kernel
theorem dX7_lacks_4 : decode cX7_lacks 4 = .ok (.aload_n 0, 1) := by decide +kernel
theorem dX7_lacks_5 : decode cX7_lacks 5 = .ok (.getfield 13, 3) := by decide +kernel
theorem dX7_lacks_8 : decode cX7_lacks 8 = .ok (.iconst 3, 1) := by decide +kernel
theorem dX7_lacks_9 : decode cX7_lacks 9 = .ok (.iaload, 1) := by decide +kernel
theorem dX7_lacks_10 : decode cX7_lacks 10 = .ok (.imul, 1) := by decide +kernel
theorem dX7_lacks_11 : decode cX7_lacks 11 = .ok (.aload_n 0, 1) := by decide +kernel
theorem dX7_lacks_12 : decode cX7_lacks 12 = .ok (.getfield 31, 3) := by decide +kernel
theorem dX7_lacks_15 : decode cX7_lacks 15 = .ok (.iconst 2, 1) := by decide +kernel
theorem dX7_lacks_16 : decode cX7_lacks 16 = .ok (.iaload, 1) := by decide +kernel
theorem dX7_lacks_17 : decode cX7_lacks 17 = .ok (.isub, 1) := by decide +kernel
theorem dX7_lacks_18 : decode cX7_lacks 18 = .ok (.istore_n 1, 1) := by decide +kernel
theorem dX7_lacks_19 : decode cX7_lacks 19 = .ok (.iload_n 1, 1) := by decide +kernel
theorem dX7_lacks_20 : decode cX7_lacks 20 = .ok (.ifCond .ge 7, 3) := by decide +kernel
theorem dX7_lacks_23 : decode cX7_lacks 23 = .ok (.iconst 0, 1) := by decide +kernel
theorem dX7_lacks_24 : decode cX7_lacks 24 = .ok (.goto 4, 3) := by decide +kernel
theorem dX7_lacks_27 : decode cX7_lacks 27 = .ok (.iload_n 1, 1) := by decide +kernel
theorem dX7_lacks_28 : decode cX7_lacks 28 = .ok (.ireturn, 1) := by decide +kernel
theorem dX7_lack_0 : decode cX7_lack 0 = .ok (.aload_n 0, 1) := by decide +kernel
theorem dX7_lack_1 : decode cX7_lack 1 = .ok (.iconst 0, 1) := by decide +kernel
theorem dX7_lack_2 : decode cX7_lack 2 = .ok (.putfield 68, 3) := by decide +kernel
theorem dX7_lack_5 : decode cX7_lack 5 = .ok (.aload_n 0, 1) := by decide +kernel
theorem dX7_lack_6 : decode cX7_lack 6 = .ok (.invokevirtual 194, 3) := by decide +kernel
theorem dX7_lack_9 : decode cX7_lack 9 = .ok (.ireturn, 1) := by decide +kernel
theorem dX7_cutFor_0 : decode cX7_cutFor 0 = .ok (.aload_n 0, 1) := by decide +kernel
theorem dX7_cutFor_1 : decode cX7_cutFor 1 = .ok (.iconst 0, 1) := by decide +kernel
theorem dX7_cutFor_2 : decode cX7_cutFor 2 = .ok (.putfield 68, 3) := by decide +kernel
theorem dX7_cutFor_5 : decode cX7_cutFor 5 = .ok (.bipush (-9), 2) := by decide +kernel
theorem dX7_cutFor_7 : decode cX7_cutFor 7 = .ok (.istore_n 1, 1) := by decide +kernel
theorem dX7_cutFor_8 : decode cX7_cutFor 8 = .ok (.iconst 0, 1) := by decide +kernel
theorem dX7_cutFor_9 : decode cX7_cutFor 9 = .ok (.istore_n 2, 1) := by decide +kernel
theorem dX7_cutFor_10 : decode cX7_cutFor 10 = .ok (.iload_n 2, 1) := by decide +kernel
theorem dX7_cutFor_11 : decode cX7_cutFor 11 = .ok (.iconst 1, 1) := by decide +kernel
theorem dX7_cutFor_12 : decode cX7_cutFor 12 = .ok (.aload_n 0, 1) := by decide +kernel
theorem dX7_cutFor_13 : decode cX7_cutFor 13 = .ok (.getfield 13, 3) := by decide +kernel
theorem dX7_cutFor_16 : decode cX7_cutFor 16 = .ok (.iconst 0, 1) := by decide +kernel
theorem dX7_cutFor_17 : decode cX7_cutFor 17 = .ok (.iaload, 1) := by decide +kernel
theorem dX7_cutFor_18 : decode cX7_cutFor 18 = .ok (.ishl, 1) := by decide +kernel
theorem dX7_cutFor_19 : decode cX7_cutFor 19 = .ok (.if_icmp .ge 89, 3) := by decide +kernel
theorem dX7_cutFor_22 : decode cX7_cutFor 22 = .ok (.iconst 0, 1) := by decide +kernel
theorem dX7_cutFor_23 : decode cX7_cutFor 23 = .ok (.istore_n 3, 1) := by decide +kernel
theorem dX7_cutFor_24 : decode cX7_cutFor 24 = .ok (.iconst 0, 1) := by decide +kernel
theorem dX7_cutFor_25 : decode cX7_cutFor 25 = .ok (.istore 4, 2) := by decide +kernel
theorem dX7_cutFor_27 : decode cX7_cutFor 27 = .ok (.iload 4, 2) := by decide +kernel
theorem dX7_cutFor_29 : decode cX7_cutFor 29 = .ok (.aload_n 0, 1) := by decide +kernel
theorem dX7_cutFor_30 : decode cX7_cutFor 30 = .ok (.getfield 13, 3) := by decide +kernel
theorem dX7_cutFor_33 : decode cX7_cutFor 33 = .ok (.iconst 0, 1) := by decide +kernel
theorem dX7_cutFor_34 : decode cX7_cutFor 34 = .ok (.iaload, 1) := by decide +kernel
theorem dX7_cutFor_35 : decode cX7_cutFor 35 = .ok (.if_icmp .ge 36, 3) := by decide +kernel
theorem dX7_cutFor_38 : decode cX7_cutFor 38 = .ok (.iload_n 3, 1) := by decide +kernel
theorem dX7_cutFor_39 : decode cX7_cutFor 39 = .ok (.iload_n 2, 1) := by decide +kernel
theorem dX7_cutFor_40 : decode cX7_cutFor 40 = .ok (.iload 4, 2) := by decide +kernel
theorem dX7_cutFor_42 : decode cX7_cutFor 42 = .ok (.ishr, 1) := by decide +kernel
theorem dX7_cutFor_43 : decode cX7_cutFor 43 = .ok (.iconst 1, 1) := by decide +kernel
theorem dX7_cutFor_44 : decode cX7_cutFor 44 = .ok (.iand, 1) := by decide +kernel
theorem dX7_cutFor_45 : decode cX7_cutFor 45 = .ok (.iconst 1, 1) := by decide +kernel
theorem dX7_cutFor_46 : decode cX7_cutFor 46 = .ok (.if_icmp .ne 16, 3) := by decide +kernel
theorem dX7_cutFor_49 : decode cX7_cutFor 49 = .ok (.aload_n 0, 1) := by decide +kernel
theorem dX7_cutFor_50 : decode cX7_cutFor 50 = .ok (.aload_n 0, 1) := by decide +kernel
theorem dX7_cutFor_51 : decode cX7_cutFor 51 = .ok (.getfield 31, 3) := by decide +kernel
theorem dX7_cutFor_54 : decode cX7_cutFor 54 = .ok (.iload 4, 2) := by decide +kernel
theorem dX7_cutFor_56 : decode cX7_cutFor 56 = .ok (.invokevirtual 142, 3) := by decide +kernel
theorem dX7_cutFor_59 : decode cX7_cutFor 59 = .ok (.goto 4, 3) := by decide +kernel
theorem dX7_cutFor_62 : decode cX7_cutFor 62 = .ok (.iconst 0, 1) := by decide +kernel
theorem dX7_cutFor_63 : decode cX7_cutFor 63 = .ok (.iadd, 1) := by decide +kernel
theorem dX7_cutFor_64 : decode cX7_cutFor 64 = .ok (.istore_n 3, 1) := by decide +kernel
theorem dX7_cutFor_65 : decode cX7_cutFor 65 = .ok (.iinc 4 1, 3) := by decide +kernel
theorem dX7_cutFor_68 : decode cX7_cutFor 68 = .ok (.goto (-41), 3) := by decide +kernel
theorem dX7_cutFor_71 : decode cX7_cutFor 71 = .ok (.iload_n 3, 1) := by decide +kernel
theorem dX7_cutFor_72 : decode cX7_cutFor 72 = .ok (.aload_n 0, 1) := by decide +kernel
theorem dX7_cutFor_73 : decode cX7_cutFor 73 = .ok (.invokevirtual 194, 3) := by decide +kernel
theorem dX7_cutFor_76 : decode cX7_cutFor 76 = .ok (.if_icmp .lt 24, 3) := by decide +kernel
theorem dX7_cutFor_79 : decode cX7_cutFor 79 = .ok (.iload_n 1, 1) := by decide +kernel
theorem dX7_cutFor_80 : decode cX7_cutFor 80 = .ok (.bipush (-9), 2) := by decide +kernel
theorem dX7_cutFor_82 : decode cX7_cutFor 82 = .ok (.if_icmp .eq 14, 3) := by decide +kernel
theorem dX7_cutFor_85 : decode cX7_cutFor 85 = .ok (.iload_n 2, 1) := by decide +kernel
theorem dX7_cutFor_86 : decode cX7_cutFor 86 = .ok (.invokestatic 197, 3) := by decide +kernel
theorem dX7_cutFor_89 : decode cX7_cutFor 89 = .ok (.iload_n 1, 1) := by decide +kernel
theorem dX7_cutFor_90 : decode cX7_cutFor 90 = .ok (.invokestatic 197, 3) := by decide +kernel
theorem dX7_cutFor_93 : decode cX7_cutFor 93 = .ok (.if_icmp .ge 7, 3) := by decide +kernel
theorem dX7_cutFor_96 : decode cX7_cutFor 96 = .ok (.iload_n 2, 1) := by decide +kernel
theorem dX7_cutFor_97 : decode cX7_cutFor 97 = .ok (.goto 4, 3) := by decide +kernel
theorem dX7_cutFor_100 : decode cX7_cutFor 100 = .ok (.iload_n 1, 1) := by decide +kernel
theorem dX7_cutFor_101 : decode cX7_cutFor 101 = .ok (.istore_n 1, 1) := by decide +kernel
theorem dX7_cutFor_102 : decode cX7_cutFor 102 = .ok (.iinc 2 1, 3) := by decide +kernel
theorem dX7_cutFor_105 : decode cX7_cutFor 105 = .ok (.goto (-95), 3) := by decide +kernel
theorem dX7_cutFor_108 : decode cX7_cutFor 108 = .ok (.iload_n 1, 1) := by decide +kernel
theorem dX7_cutFor_109 : decode cX7_cutFor 109 = .ok (.ireturn, 1) := by decide +kernel
theorem dX7_allBy_0 : decode cX7_allBy 0 = .ok (.aload_n 0, 1) := by decide +kernel
theorem dX7_allBy_1 : decode cX7_allBy 1 = .ok (.iconst 0, 1) := by decide +kernel
theorem dX7_allBy_2 : decode cX7_allBy 2 = .ok (.putfield 68, 3) := by decide +kernel
theorem dX7_allBy_5 : decode cX7_allBy 5 = .ok (.aload_n 0, 1) := by decide +kernel
theorem dX7_allBy_6 : decode cX7_allBy 6 = .ok (.getfield 31, 3) := by decide +kernel
theorem dX7_allBy_9 : decode cX7_allBy 9 = .ok (.iconst 0, 1) := by decide +kernel
theorem dX7_allBy_10 : decode cX7_allBy 10 = .ok (.iaload, 1) := by decide +kernel
theorem dX7_allBy_11 : decode cX7_allBy 11 = .ok (.aload_n 0, 1) := by decide +kernel
theorem dX7_allBy_12 : decode cX7_allBy 12 = .ok (.aload_n 0, 1) := by decide +kernel
theorem dX7_allBy_13 : decode cX7_allBy 13 = .ok (.invokevirtual 190, 3) := by decide +kernel
theorem dX7_allBy_16 : decode cX7_allBy 16 = .ok (.invokevirtual 162, 3) := by decide +kernel
theorem dX7_allBy_19 : decode cX7_allBy 19 = .ok (.iadd, 1) := by decide +kernel
theorem dX7_allBy_20 : decode cX7_allBy 20 = .ok (.ireturn, 1) := by decide +kernel
theorem dX7_isWornOut_0 : decode cX7_isWornOut 0 = .ok (.iconst 0, 1) := by decide +kernel
theorem dX7_isWornOut_1 : decode cX7_isWornOut 1 = .ok (.istore_n 1, 1) := by decide +kernel
theorem dX7_isWornOut_2 : decode cX7_isWornOut 2 = .ok (.iconst 0, 1) := by decide +kernel
theorem dX7_isWornOut_3 : decode cX7_isWornOut 3 = .ok (.istore_n 2, 1) := by decide +kernel
theorem dX7_isWornOut_4 : decode cX7_isWornOut 4 = .ok (.iload_n 2, 1) := by decide +kernel
theorem dX7_isWornOut_5 : decode cX7_isWornOut 5 = .ok (.bipush 8, 2) := by decide +kernel
theorem dX7_isWornOut_7 : decode cX7_isWornOut 7 = .ok (.if_icmp .ge 28, 3) := by decide +kernel
theorem dX7_isWornOut_10 : decode cX7_isWornOut 10 = .ok (.iload_n 1, 1) := by decide +kernel
theorem dX7_isWornOut_11 : decode cX7_isWornOut 11 = .ok (.ifCond .ne 12, 3) := by decide +kernel
theorem dX7_isWornOut_14 : decode cX7_isWornOut 14 = .ok (.aload_n 0, 1) := by decide +kernel
theorem dX7_isWornOut_15 : decode cX7_isWornOut 15 = .ok (.bipush 7, 2) := by decide +kernel
theorem dX7_isWornOut_17 : decode cX7_isWornOut 17 = .ok (.iload_n 2, 1) := by decide +kernel
theorem dX7_isWornOut_18 : decode cX7_isWornOut 18 = .ok (.iadd, 1) := by decide +kernel
theorem dX7_isWornOut_19 : decode cX7_isWornOut 19 = .ok (.iaload, 1) := by decide +kernel
theorem dX7_isWornOut_20 : decode cX7_isWornOut 20 = .ok (.ifCond .ne 7, 3) := by decide +kernel
theorem dX7_isWornOut_23 : decode cX7_isWornOut 23 = .ok (.iconst 1, 1) := by decide +kernel
theorem dX7_isWornOut_24 : decode cX7_isWornOut 24 = .ok (.goto 4, 3) := by decide +kernel
theorem dX7_isWornOut_27 : decode cX7_isWornOut 27 = .ok (.iconst 0, 1) := by decide +kernel
theorem dX7_isWornOut_28 : decode cX7_isWornOut 28 = .ok (.istore_n 1, 1) := by decide +kernel
theorem dX7_isWornOut_29 : decode cX7_isWornOut 29 = .ok (.iinc 2 1, 3) := by decide +kernel
theorem dX7_isWornOut_32 : decode cX7_isWornOut 32 = .ok (.goto (-28), 3) := by decide +kernel
theorem dX7_isWornOut_35 : decode cX7_isWornOut 35 = .ok (.iload_n 1, 1) := by decide +kernel
theorem dX7_isWornOut_36 : decode cX7_isWornOut 36 = .ok (.ireturn, 1) := by decide +kernel
theorem dX7_goes_0 : decode cX7_goes 0 = .ok (.aload_n 0, 1) := by decide +kernel
theorem dX7_goes_1 : decode cX7_goes 1 = .ok (.getfield 34, 3) := by decide +kernel
theorem dX7_goes_4 : decode cX7_goes 4 = .ok (.invokestatic 169, 3) := by decide +kernel
theorem dX7_goes_7 : decode cX7_goes 7 = .ok (.aload_n 0, 1) := by decide +kernel
theorem dX7_goes_8 : decode cX7_goes 8 = .ok (.getfield 34, 3) := by decide +kernel
theorem dX7_goes_11 : decode cX7_goes 11 = .ok (.bipush 6, 2) := by decide +kernel
theorem dX7_goes_13 : decode cX7_goes 13 = .ok (.aload_n 0, 1) := by decide +kernel
theorem dX7_goes_14 : decode cX7_goes 14 = .ok (.getfield 34, 3) := by decide +kernel
theorem dX7_goes_17 : decode cX7_goes 17 = .ok (.bipush 6, 2) := by decide +kernel
theorem dX7_goes_19 : decode cX7_goes 19 = .ok (.iaload, 1) := by decide +kernel
theorem dX7_goes_20 : decode cX7_goes 20 = .ok (.iload_n 1, 1) := by decide +kernel
theorem dX7_goes_21 : decode cX7_goes 21 = .ok (.iadd, 1) := by decide +kernel
theorem dX7_goes_22 : decode cX7_goes 22 = .ok (.bipush 8, 2) := by decide +kernel
theorem dX7_goes_24 : decode cX7_goes 24 = .ok (.irem, 1) := by decide +kernel
theorem dX7_goes_25 : decode cX7_goes 25 = .ok (.iastore, 1) := by decide +kernel
theorem dX7_goes_26 : decode cX7_goes 26 = .ok (.return_, 1) := by decide +kernel
theorem dX7_lastsBy_0 : decode cX7_lastsBy 0 = .ok (.aload_n 0, 1) := by decide +kernel
theorem dX7_lastsBy_1 : decode cX7_lastsBy 1 = .ok (.invokevirtual 175, 3) := by decide +kernel
theorem dX7_lastsBy_4 : decode cX7_lastsBy 4 = .ok (.iconst 0, 1) := by decide +kernel
theorem dX7_lastsBy_5 : decode cX7_lastsBy 5 = .ok (.istore_n 2, 1) := by decide +kernel
theorem dX7_lastsBy_6 : decode cX7_lastsBy 6 = .ok (.aload_n 0, 1) := by decide +kernel
theorem dX7_lastsBy_7 : decode cX7_lastsBy 7 = .ok (.getfield 34, 3) := by decide +kernel
theorem dX7_lastsBy_10 : decode cX7_lastsBy 10 = .ok (.invokestatic 200, 3) := by decide +kernel
theorem dX7_lastsBy_13 : decode cX7_lastsBy 13 = .ok (.ifCond .ne 14, 3) := by decide +kernel
theorem dX7_lastsBy_16 : decode cX7_lastsBy 16 = .ok (.aload_n 0, 1) := by decide +kernel
theorem dX7_lastsBy_17 : decode cX7_lastsBy 17 = .ok (.iload_n 1, 1) := by decide +kernel
theorem dX7_lastsBy_18 : decode cX7_lastsBy 18 = .ok (.invokevirtual 204, 3) := by decide +kernel
theorem dX7_lastsBy_21 : decode cX7_lastsBy 21 = .ok (.iinc 2 1, 3) := by decide +kernel
theorem dX7_lastsBy_24 : decode cX7_lastsBy 24 = .ok (.goto (-18), 3) := by decide +kernel
theorem dX7_lastsBy_27 : decode cX7_lastsBy 27 = .ok (.iload_n 2, 1) := by decide +kernel
theorem dX7_lastsBy_28 : decode cX7_lastsBy 28 = .ok (.ireturn, 1) := by decide +kernel
theorem dX7_lasts_0 : decode cX7_lasts 0 = .ok (.aload_n 0, 1) := by decide +kernel
theorem dX7_lasts_1 : decode cX7_lasts 1 = .ok (.iconst 0, 1) := by decide +kernel
theorem dX7_lasts_2 : decode cX7_lasts 2 = .ok (.putfield 68, 3) := by decide +kernel
theorem dX7_lasts_5 : decode cX7_lasts 5 = .ok (.iload_n 1, 1) := by decide +kernel
theorem dX7_lasts_6 : decode cX7_lasts 6 = .ok (.iconst 0, 1) := by decide +kernel
theorem dX7_lasts_7 : decode cX7_lasts 7 = .ok (.bipush 7, 2) := by decide +kernel
theorem dX7_lasts_9 : decode cX7_lasts 9 = .ok (.invokestatic 72, 3) := by decide +kernel
theorem dX7_lasts_12 : decode cX7_lasts 12 = .ok (.ifCond .eq 11, 3) := by decide +kernel
theorem dX7_lasts_15 : decode cX7_lasts 15 = .ok (.aload_n 0, 1) := by decide +kernel
theorem dX7_lasts_16 : decode cX7_lasts 16 = .ok (.iload_n 1, 1) := by decide +kernel
theorem dX7_lasts_17 : decode cX7_lasts 17 = .ok (.invokevirtual 207, 3) := by decide +kernel
theorem dX7_lasts_20 : decode cX7_lasts 20 = .ok (.goto 4, 3) := by decide +kernel
theorem dX7_lasts_23 : decode cX7_lasts 23 = .ok (.iconst (-1), 1) := by decide +kernel
theorem dX7_lasts_24 : decode cX7_lasts 24 = .ok (.ireturn, 1) := by decide +kernel
theorem dX7_latest_0 : decode cX7_latest 0 = .ok (.aload_n 0, 1) := by decide +kernel
theorem dX7_latest_1 : decode cX7_latest 1 = .ok (.iconst 0, 1) := by decide +kernel
theorem dX7_latest_2 : decode cX7_latest 2 = .ok (.putfield 68, 3) := by decide +kernel
theorem dX7_latest_5 : decode cX7_latest 5 = .ok (.iconst 0, 1) := by decide +kernel
theorem dX7_latest_6 : decode cX7_latest 6 = .ok (.istore_n 1, 1) := by decide +kernel
theorem dX7_latest_7 : decode cX7_latest 7 = .ok (.iconst 1, 1) := by decide +kernel
theorem dX7_latest_8 : decode cX7_latest 8 = .ok (.istore_n 2, 1) := by decide +kernel
theorem dX7_latest_9 : decode cX7_latest 9 = .ok (.iload_n 2, 1) := by decide +kernel
theorem dX7_latest_10 : decode cX7_latest 10 = .ok (.bipush 8, 2) := by decide +kernel
theorem dX7_latest_12 : decode cX7_latest 12 = .ok (.if_icmp .ge 28, 3) := by decide +kernel
theorem dX7_latest_15 : decode cX7_latest 15 = .ok (.aload_n 0, 1) := by decide +kernel
theorem dX7_latest_16 : decode cX7_latest 16 = .ok (.iload_n 2, 1) := by decide +kernel
theorem dX7_latest_17 : decode cX7_latest 17 = .ok (.invokevirtual 207, 3) := by decide +kernel
theorem dX7_latest_20 : decode cX7_latest 20 = .ok (.aload_n 0, 1) := by decide +kernel
theorem dX7_latest_21 : decode cX7_latest 21 = .ok (.iload_n 1, 1) := by decide +kernel
theorem dX7_latest_22 : decode cX7_latest 22 = .ok (.invokevirtual 207, 3) := by decide +kernel
theorem dX7_latest_25 : decode cX7_latest 25 = .ok (.if_icmp .le 7, 3) := by decide +kernel
theorem dX7_latest_28 : decode cX7_latest 28 = .ok (.iload_n 2, 1) := by decide +kernel
theorem dX7_latest_29 : decode cX7_latest 29 = .ok (.goto 4, 3) := by decide +kernel
theorem dX7_latest_32 : decode cX7_latest 32 = .ok (.iload_n 1, 1) := by decide +kernel
theorem dX7_latest_33 : decode cX7_latest 33 = .ok (.istore_n 1, 1) := by decide +kernel
theorem dX7_latest_34 : decode cX7_latest 34 = .ok (.iinc 2 1, 3) := by decide +kernel
theorem dX7_latest_37 : decode cX7_latest 37 = .ok (.goto (-28), 3) := by decide +kernel
theorem dX7_latest_40 : decode cX7_latest 40 = .ok (.iload_n 1, 1) := by decide +kernel
theorem dX7_latest_41 : decode cX7_latest 41 = .ok (.ireturn, 1) := by decide +kernel
theorem dX7_saw_0 : decode cX7_saw 0 = .ok (.aload_n 0, 1) := by decide +kernel
theorem dX7_saw_1 : decode cX7_saw 1 = .ok (.iconst 0, 1) := by decide +kernel
theorem dX7_saw_2 : decode cX7_saw 2 = .ok (.putfield 68, 3) := by decide +kernel
theorem dX7_saw_5 : decode cX7_saw 5 = .ok (.iload_n 1, 1) := by decide +kernel
theorem dX7_saw_6 : decode cX7_saw 6 = .ok (.iconst 0, 1) := by decide +kernel
theorem dX7_saw_7 : decode cX7_saw 7 = .ok (.bipush 40, 2) := by decide +kernel
theorem dX7_saw_9 : decode cX7_saw 9 = .ok (.invokestatic 72, 3) := by decide +kernel
theorem dX7_saw_12 : decode cX7_saw 12 = .ok (.ifCond .eq 23, 3) := by decide +kernel
theorem dX7_saw_15 : decode cX7_saw 15 = .ok (.iload_n 2, 1) := by decide +kernel
theorem dX7_saw_16 : decode cX7_saw 16 = .ok (.iconst 0, 1) := by decide +kernel
theorem dX7_saw_17 : decode cX7_saw 17 = .ok (.bipush 7, 2) := by decide +kernel
theorem dX7_saw_19 : decode cX7_saw 19 = .ok (.invokestatic 72, 3) := by decide +kernel
theorem dX7_saw_22 : decode cX7_saw 22 = .ok (.ifCond .eq 13, 3) := by decide +kernel
theorem dX7_saw_25 : decode cX7_saw 25 = .ok (.iload_n 3, 1) := by decide +kernel
theorem dX7_saw_26 : decode cX7_saw 26 = .ok (.iconst 0, 1) := by decide +kernel
theorem dX7_saw_27 : decode cX7_saw 27 = .ok (.bipush 15, 2) := by decide +kernel
theorem dX7_saw_29 : decode cX7_saw 29 = .ok (.invokestatic 72, 3) := by decide +kernel
theorem dX7_saw_32 : decode cX7_saw 32 = .ok (.ifCond .ne 5, 3) := by decide +kernel
theorem dX7_saw_35 : decode cX7_saw 35 = .ok (.iconst (-1), 1) := by decide +kernel
theorem dX7_saw_36 : decode cX7_saw 36 = .ok (.ireturn, 1) := by decide +kernel
theorem dX7_saw_37 : decode cX7_saw 37 = .ok (.aload_n 0, 1) := by decide +kernel
theorem dX7_saw_38 : decode cX7_saw 38 = .ok (.getfield 130, 3) := by decide +kernel
theorem dX7_saw_41 : decode cX7_saw 41 = .ok (.iconst 5, 1) := by decide +kernel
theorem dX7_saw_42 : decode cX7_saw 42 = .ok (.if_icmp .ne 6, 3) := by decide +kernel
theorem dX7_saw_45 : decode cX7_saw 45 = .ok (.bipush (-3), 2) := by decide +kernel
theorem dX7_saw_47 : decode cX7_saw 47 = .ok (.ireturn, 1) := by decide +kernel
theorem dX7_saw_48 : decode cX7_saw 48 = .ok (.aload_n 0, 1) := by decide +kernel
theorem dX7_saw_49 : decode cX7_saw 49 = .ok (.getfield 47, 3) := by decide +kernel
theorem dX7_saw_52 : decode cX7_saw 52 = .ok (.aload_n 0, 1) := by decide +kernel
theorem dX7_saw_53 : decode cX7_saw 53 = .ok (.getfield 130, 3) := by decide +kernel
theorem dX7_saw_56 : decode cX7_saw 56 = .ok (.iload_n 1, 1) := by decide +kernel
theorem dX7_saw_57 : decode cX7_saw 57 = .ok (.iastore, 1) := by decide +kernel
theorem dX7_saw_58 : decode cX7_saw 58 = .ok (.aload_n 0, 1) := by decide +kernel
theorem dX7_saw_59 : decode cX7_saw 59 = .ok (.getfield 50, 3) := by decide +kernel
theorem dX7_saw_62 : decode cX7_saw 62 = .ok (.aload_n 0, 1) := by decide +kernel
theorem dX7_saw_63 : decode cX7_saw 63 = .ok (.getfield 130, 3) := by decide +kernel
theorem dX7_saw_66 : decode cX7_saw 66 = .ok (.iload_n 2, 1) := by decide +kernel
theorem dX7_saw_67 : decode cX7_saw 67 = .ok (.iastore, 1) := by decide +kernel
theorem dX7_saw_68 : decode cX7_saw 68 = .ok (.aload_n 0, 1) := by decide +kernel
theorem dX7_saw_69 : decode cX7_saw 69 = .ok (.getfield 53, 3) := by decide +kernel
theorem dX7_saw_72 : decode cX7_saw 72 = .ok (.aload_n 0, 1) := by decide +kernel
theorem dX7_saw_73 : decode cX7_saw 73 = .ok (.getfield 130, 3) := by decide +kernel
theorem dX7_saw_76 : decode cX7_saw 76 = .ok (.iload_n 3, 1) := by decide +kernel
theorem dX7_saw_77 : decode cX7_saw 77 = .ok (.iastore, 1) := by decide +kernel
theorem dX7_saw_78 : decode cX7_saw 78 = .ok (.aload_n 0, 1) := by decide +kernel
theorem dX7_saw_79 : decode cX7_saw 79 = .ok (.dup, 1) := by decide +kernel
theorem dX7_saw_80 : decode cX7_saw 80 = .ok (.getfield 130, 3) := by decide +kernel
theorem dX7_saw_83 : decode cX7_saw 83 = .ok (.iconst 1, 1) := by decide +kernel
theorem dX7_saw_84 : decode cX7_saw 84 = .ok (.iadd, 1) := by decide +kernel
theorem dX7_saw_85 : decode cX7_saw 85 = .ok (.putfield 130, 3) := by decide +kernel
theorem dX7_saw_88 : decode cX7_saw 88 = .ok (.aload_n 0, 1) := by decide +kernel
theorem dX7_saw_89 : decode cX7_saw 89 = .ok (.getfield 130, 3) := by decide +kernel
theorem dX7_saw_92 : decode cX7_saw 92 = .ok (.ireturn, 1) := by decide +kernel
theorem dX7_forget_0 : decode cX7_forget 0 = .ok (.aload_n 0, 1) := by decide +kernel
theorem dX7_forget_1 : decode cX7_forget 1 = .ok (.iconst 0, 1) := by decide +kernel
theorem dX7_forget_2 : decode cX7_forget 2 = .ok (.putfield 68, 3) := by decide +kernel
theorem dX7_forget_5 : decode cX7_forget 5 = .ok (.aload_n 0, 1) := by decide +kernel
theorem dX7_forget_6 : decode cX7_forget 6 = .ok (.getfield 130, 3) := by decide +kernel
theorem dX7_forget_9 : decode cX7_forget 9 = .ok (.istore_n 1, 1) := by decide +kernel
theorem dX7_forget_10 : decode cX7_forget 10 = .ok (.aload_n 0, 1) := by decide +kernel
theorem dX7_forget_11 : decode cX7_forget 11 = .ok (.iconst 0, 1) := by decide +kernel
theorem dX7_forget_12 : decode cX7_forget 12 = .ok (.putfield 130, 3) := by decide +kernel
theorem dX7_forget_15 : decode cX7_forget 15 = .ok (.iload_n 1, 1) := by decide +kernel
theorem dX7_forget_16 : decode cX7_forget 16 = .ok (.ireturn, 1) := by decide +kernel
theorem dX7_which_0 : decode cX7_which 0 = .ok (.aload_n 0, 1) := by decide +kernel
theorem dX7_which_1 : decode cX7_which 1 = .ok (.iconst 0, 1) := by decide +kernel
theorem dX7_which_2 : decode cX7_which 2 = .ok (.putfield 68, 3) := by decide +kernel
theorem dX7_which_5 : decode cX7_which 5 = .ok (.iconst 0, 1) := by decide +kernel
theorem dX7_which_6 : decode cX7_which 6 = .ok (.istore_n 1, 1) := by decide +kernel
theorem dX7_which_7 : decode cX7_which 7 = .ok (.iconst 0, 1) := by decide +kernel
theorem dX7_which_8 : decode cX7_which 8 = .ok (.istore_n 2, 1) := by decide +kernel
theorem dX7_which_9 : decode cX7_which 9 = .ok (.iload_n 2, 1) := by decide +kernel
theorem dX7_which_10 : decode cX7_which 10 = .ok (.bipush 8, 2) := by decide +kernel
theorem dX7_which_12 : decode cX7_which 12 = .ok (.if_icmp .ge 115, 3) := by decide +kernel
theorem dX7_which_15 : decode cX7_which 15 = .ok (.iconst 1, 1) := by decide +kernel
theorem dX7_which_16 : decode cX7_which 16 = .ok (.istore_n 3, 1) := by decide +kernel
theorem dX7_which_17 : decode cX7_which 17 = .ok (.aload_n 0, 1) := by decide +kernel
theorem dX7_which_18 : decode cX7_which 18 = .ok (.invokevirtual 175, 3) := by decide +kernel
theorem dX7_which_21 : decode cX7_which 21 = .ok (.iconst 0, 1) := by decide +kernel
theorem dX7_which_22 : decode cX7_which 22 = .ok (.istore 4, 2) := by decide +kernel
theorem dX7_which_24 : decode cX7_which 24 = .ok (.iload 4, 2) := by decide +kernel
theorem dX7_which_26 : decode cX7_which 26 = .ok (.bipush 40, 2) := by decide +kernel
theorem dX7_which_28 : decode cX7_which 28 = .ok (.if_icmp .gt 79, 3) := by decide +kernel
theorem dX7_which_31 : decode cX7_which 31 = .ok (.iconst 0, 1) := by decide +kernel
theorem dX7_which_32 : decode cX7_which 32 = .ok (.istore 5, 2) := by decide +kernel
theorem dX7_which_34 : decode cX7_which 34 = .ok (.iload 5, 2) := by decide +kernel
theorem dX7_which_36 : decode cX7_which 36 = .ok (.aload_n 0, 1) := by decide +kernel
theorem dX7_which_37 : decode cX7_which 37 = .ok (.getfield 130, 3) := by decide +kernel
theorem dX7_which_40 : decode cX7_which 40 = .ok (.if_icmp .ge 56, 3) := by decide +kernel
theorem dX7_which_43 : decode cX7_which 43 = .ok (.iload_n 3, 1) := by decide +kernel
theorem dX7_which_44 : decode cX7_which 44 = .ok (.ifCond .eq 44, 3) := by decide +kernel
theorem dX7_which_47 : decode cX7_which 47 = .ok (.aload_n 0, 1) := by decide +kernel
theorem dX7_which_48 : decode cX7_which 48 = .ok (.getfield 47, 3) := by decide +kernel
theorem dX7_which_51 : decode cX7_which 51 = .ok (.iload 5, 2) := by decide +kernel
theorem dX7_which_53 : decode cX7_which 53 = .ok (.iaload, 1) := by decide +kernel
theorem dX7_which_54 : decode cX7_which 54 = .ok (.iload 4, 2) := by decide +kernel
theorem dX7_which_56 : decode cX7_which 56 = .ok (.if_icmp .ne 28, 3) := by decide +kernel
theorem dX7_which_59 : decode cX7_which 59 = .ok (.aload_n 0, 1) := by decide +kernel
theorem dX7_which_60 : decode cX7_which 60 = .ok (.getfield 34, 3) := by decide +kernel
theorem dX7_which_63 : decode cX7_which 63 = .ok (.bipush 7, 2) := by decide +kernel
theorem dX7_which_65 : decode cX7_which 65 = .ok (.aload_n 0, 1) := by decide +kernel
theorem dX7_which_66 : decode cX7_which 66 = .ok (.getfield 50, 3) := by decide +kernel
theorem dX7_which_69 : decode cX7_which 69 = .ok (.iload 5, 2) := by decide +kernel
theorem dX7_which_71 : decode cX7_which 71 = .ok (.iaload, 1) := by decide +kernel
theorem dX7_which_72 : decode cX7_which 72 = .ok (.iadd, 1) := by decide +kernel
theorem dX7_which_73 : decode cX7_which 73 = .ok (.iaload, 1) := by decide +kernel
theorem dX7_which_74 : decode cX7_which 74 = .ok (.aload_n 0, 1) := by decide +kernel
theorem dX7_which_75 : decode cX7_which 75 = .ok (.getfield 53, 3) := by decide +kernel
theorem dX7_which_78 : decode cX7_which 78 = .ok (.iload 5, 2) := by decide +kernel
theorem dX7_which_80 : decode cX7_which 80 = .ok (.iaload, 1) := by decide +kernel
theorem dX7_which_81 : decode cX7_which 81 = .ok (.if_icmp .ne 7, 3) := by decide +kernel
theorem dX7_which_84 : decode cX7_which 84 = .ok (.iconst 1, 1) := by decide +kernel
theorem dX7_which_85 : decode cX7_which 85 = .ok (.goto 4, 3) := by decide +kernel
theorem dX7_which_88 : decode cX7_which 88 = .ok (.iconst 0, 1) := by decide +kernel
theorem dX7_which_89 : decode cX7_which 89 = .ok (.istore_n 3, 1) := by decide +kernel
theorem dX7_which_90 : decode cX7_which 90 = .ok (.iinc 5 1, 3) := by decide +kernel
theorem dX7_which_93 : decode cX7_which 93 = .ok (.goto (-59), 3) := by decide +kernel
theorem dX7_which_96 : decode cX7_which 96 = .ok (.aload_n 0, 1) := by decide +kernel
theorem dX7_which_97 : decode cX7_which 97 = .ok (.iload_n 2, 1) := by decide +kernel
theorem dX7_which_98 : decode cX7_which 98 = .ok (.invokevirtual 204, 3) := by decide +kernel
theorem dX7_which_101 : decode cX7_which 101 = .ok (.iinc 4 1, 3) := by decide +kernel
theorem dX7_which_104 : decode cX7_which 104 = .ok (.goto (-80), 3) := by decide +kernel
theorem dX7_which_107 : decode cX7_which 107 = .ok (.iload_n 1, 1) := by decide +kernel
theorem dX7_which_108 : decode cX7_which 108 = .ok (.iload_n 3, 1) := by decide +kernel
theorem dX7_which_109 : decode cX7_which 109 = .ok (.ifCond .eq 9, 3) := by decide +kernel
theorem dX7_which_112 : decode cX7_which 112 = .ok (.iconst 1, 1) := by decide +kernel
theorem dX7_which_113 : decode cX7_which 113 = .ok (.iload_n 2, 1) := by decide +kernel
theorem dX7_which_114 : decode cX7_which 114 = .ok (.ishl, 1) := by decide +kernel
theorem dX7_which_115 : decode cX7_which 115 = .ok (.goto 4, 3) := by decide +kernel
theorem dX7_which_118 : decode cX7_which 118 = .ok (.iconst 0, 1) := by decide +kernel
theorem dX7_which_119 : decode cX7_which 119 = .ok (.ior, 1) := by decide +kernel
theorem dX7_which_120 : decode cX7_which 120 = .ok (.istore_n 1, 1) := by decide +kernel
theorem dX7_which_121 : decode cX7_which 121 = .ok (.iinc 2 1, 3) := by decide +kernel
theorem dX7_which_124 : decode cX7_which 124 = .ok (.goto (-115), 3) := by decide +kernel
theorem dX7_which_127 : decode cX7_which 127 = .ok (.iload_n 1, 1) := by decide +kernel
theorem dX7_which_128 : decode cX7_which 128 = .ok (.ireturn, 1) := by decide +kernel
theorem dX7_power_0 : decode cX7_power 0 = .ok (.iconst 1, 1) := by decide +kernel
theorem dX7_power_1 : decode cX7_power 1 = .ok (.istore_n 2, 1) := by decide +kernel
theorem dX7_power_2 : decode cX7_power 2 = .ok (.iconst 0, 1) := by decide +kernel
theorem dX7_power_3 : decode cX7_power 3 = .ok (.istore_n 3, 1) := by decide +kernel
theorem dX7_power_4 : decode cX7_power 4 = .ok (.iload_n 3, 1) := by decide +kernel
theorem dX7_power_5 : decode cX7_power 5 = .ok (.iload_n 1, 1) := by decide +kernel
theorem dX7_power_6 : decode cX7_power 6 = .ok (.if_icmp .ge 13, 3) := by decide +kernel
theorem dX7_power_9 : decode cX7_power 9 = .ok (.iload_n 2, 1) := by decide +kernel
theorem dX7_power_10 : decode cX7_power 10 = .ok (.iload_n 0, 1) := by decide +kernel
theorem dX7_power_11 : decode cX7_power 11 = .ok (.imul, 1) := by decide +kernel
theorem dX7_power_12 : decode cX7_power 12 = .ok (.istore_n 2, 1) := by decide +kernel
theorem dX7_power_13 : decode cX7_power 13 = .ok (.iinc 3 1, 3) := by decide +kernel
theorem dX7_power_16 : decode cX7_power 16 = .ok (.goto (-12), 3) := by decide +kernel
theorem dX7_power_19 : decode cX7_power 19 = .ok (.iload_n 2, 1) := by decide +kernel
theorem dX7_power_20 : decode cX7_power 20 = .ok (.ireturn, 1) := by decide +kernel
theorem dX7_odds_0 : decode cX7_odds 0 = .ok (.aload_n 0, 1) := by decide +kernel
theorem dX7_odds_1 : decode cX7_odds 1 = .ok (.iconst 0, 1) := by decide +kernel
theorem dX7_odds_2 : decode cX7_odds 2 = .ok (.putfield 68, 3) := by decide +kernel
theorem dX7_odds_5 : decode cX7_odds 5 = .ok (.iload_n 1, 1) := by decide +kernel
theorem dX7_odds_6 : decode cX7_odds 6 = .ok (.iconst 0, 1) := by decide +kernel
theorem dX7_odds_7 : decode cX7_odds 7 = .ok (.bipush 10, 2) := by decide +kernel
theorem dX7_odds_9 : decode cX7_odds 9 = .ok (.invokestatic 72, 3) := by decide +kernel
theorem dX7_odds_12 : decode cX7_odds 12 = .ok (.ifCond .eq 33, 3) := by decide +kernel
theorem dX7_odds_15 : decode cX7_odds 15 = .ok (.iload_n 2, 1) := by decide +kernel
theorem dX7_odds_16 : decode cX7_odds 16 = .ok (.iconst 0, 1) := by decide +kernel
theorem dX7_odds_17 : decode cX7_odds 17 = .ok (.bipush 6, 2) := by decide +kernel
theorem dX7_odds_19 : decode cX7_odds 19 = .ok (.invokestatic 72, 3) := by decide +kernel
theorem dX7_odds_22 : decode cX7_odds 22 = .ok (.ifCond .eq 23, 3) := by decide +kernel
theorem dX7_odds_25 : decode cX7_odds 25 = .ok (.iload_n 3, 1) := by decide +kernel
theorem dX7_odds_26 : decode cX7_odds 26 = .ok (.iconst 0, 1) := by decide +kernel
theorem dX7_odds_27 : decode cX7_odds 27 = .ok (.bipush 6, 2) := by decide +kernel
theorem dX7_odds_29 : decode cX7_odds 29 = .ok (.invokestatic 72, 3) := by decide +kernel
theorem dX7_odds_32 : decode cX7_odds 32 = .ok (.ifCond .eq 13, 3) := by decide +kernel
theorem dX7_odds_35 : decode cX7_odds 35 = .ok (.iload 4, 2) := by decide +kernel
theorem dX7_odds_37 : decode cX7_odds 37 = .ok (.iconst 0, 1) := by decide +kernel
theorem dX7_odds_38 : decode cX7_odds 38 = .ok (.iconst 1, 1) := by decide +kernel
theorem dX7_odds_39 : decode cX7_odds 39 = .ok (.invokestatic 72, 3) := by decide +kernel
theorem dX7_odds_42 : decode cX7_odds 42 = .ok (.ifCond .ne 5, 3) := by decide +kernel
theorem dX7_odds_45 : decode cX7_odds 45 = .ok (.iconst (-1), 1) := by decide +kernel
theorem dX7_odds_46 : decode cX7_odds 46 = .ok (.ireturn, 1) := by decide +kernel
theorem dX7_odds_47 : decode cX7_odds 47 = .ok (.iconst 0, 1) := by decide +kernel
theorem dX7_odds_48 : decode cX7_odds 48 = .ok (.istore 5, 2) := by decide +kernel
theorem dX7_odds_50 : decode cX7_odds 50 = .ok (.iconst 0, 1) := by decide +kernel
theorem dX7_odds_51 : decode cX7_odds 51 = .ok (.istore 6, 2) := by decide +kernel
theorem dX7_odds_53 : decode cX7_odds 53 = .ok (.iload 6, 2) := by decide +kernel
theorem dX7_odds_55 : decode cX7_odds 55 = .ok (.iconst 1, 1) := by decide +kernel
theorem dX7_odds_56 : decode cX7_odds 56 = .ok (.iload_n 2, 1) := by decide +kernel
theorem dX7_odds_57 : decode cX7_odds 57 = .ok (.ishl, 1) := by decide +kernel
theorem dX7_odds_58 : decode cX7_odds 58 = .ok (.if_icmp .ge 49, 3) := by decide +kernel
theorem dX7_odds_61 : decode cX7_odds 61 = .ok (.iload 6, 2) := by decide +kernel
theorem dX7_odds_63 : decode cX7_odds 63 = .ok (.invokestatic 197, 3) := by decide +kernel
theorem dX7_odds_66 : decode cX7_odds 66 = .ok (.istore 7, 2) := by decide +kernel
theorem dX7_odds_68 : decode cX7_odds 68 = .ok (.iload 5, 2) := by decide +kernel
theorem dX7_odds_70 : decode cX7_odds 70 = .ok (.iload 7, 2) := by decide +kernel
theorem dX7_odds_72 : decode cX7_odds 72 = .ok (.iload_n 3, 1) := by decide +kernel
theorem dX7_odds_73 : decode cX7_odds 73 = .ok (.if_icmp .lt 24, 3) := by decide +kernel
theorem dX7_odds_76 : decode cX7_odds 76 = .ok (.bipush 10, 2) := by decide +kernel
theorem dX7_odds_78 : decode cX7_odds 78 = .ok (.iload_n 1, 1) := by decide +kernel
theorem dX7_odds_79 : decode cX7_odds 79 = .ok (.isub, 1) := by decide +kernel
theorem dX7_odds_80 : decode cX7_odds 80 = .ok (.iload 7, 2) := by decide +kernel
theorem dX7_odds_82 : decode cX7_odds 82 = .ok (.invokestatic 210, 3) := by decide +kernel
theorem dX7_odds_85 : decode cX7_odds 85 = .ok (.iload_n 1, 1) := by decide +kernel
theorem dX7_odds_86 : decode cX7_odds 86 = .ok (.iload_n 2, 1) := by decide +kernel
theorem dX7_odds_87 : decode cX7_odds 87 = .ok (.iload 7, 2) := by decide +kernel
theorem dX7_odds_89 : decode cX7_odds 89 = .ok (.isub, 1) := by decide +kernel
theorem dX7_odds_90 : decode cX7_odds 90 = .ok (.invokestatic 210, 3) := by decide +kernel
theorem dX7_odds_93 : decode cX7_odds 93 = .ok (.imul, 1) := by decide +kernel
theorem dX7_odds_94 : decode cX7_odds 94 = .ok (.goto 4, 3) := by decide +kernel
theorem dX7_odds_97 : decode cX7_odds 97 = .ok (.iconst 0, 1) := by decide +kernel
theorem dX7_odds_98 : decode cX7_odds 98 = .ok (.iadd, 1) := by decide +kernel
theorem dX7_odds_99 : decode cX7_odds 99 = .ok (.istore 5, 2) := by decide +kernel
theorem dX7_odds_101 : decode cX7_odds 101 = .ok (.iinc 6 1, 3) := by decide +kernel
theorem dX7_odds_104 : decode cX7_odds 104 = .ok (.goto (-51), 3) := by decide +kernel
theorem dX7_odds_107 : decode cX7_odds 107 = .ok (.bipush 10, 2) := by decide +kernel
theorem dX7_odds_109 : decode cX7_odds 109 = .ok (.iload_n 2, 1) := by decide +kernel
theorem dX7_odds_110 : decode cX7_odds 110 = .ok (.invokestatic 210, 3) := by decide +kernel
theorem dX7_odds_113 : decode cX7_odds 113 = .ok (.istore 6, 2) := by decide +kernel
theorem dX7_odds_115 : decode cX7_odds 115 = .ok (.iload 5, 2) := by decide +kernel
theorem dX7_odds_117 : decode cX7_odds 117 = .ok (.iload 6, 2) := by decide +kernel
theorem dX7_odds_119 : decode cX7_odds 119 = .ok (.invokestatic 172, 3) := by decide +kernel
theorem dX7_odds_122 : decode cX7_odds 122 = .ok (.istore 7, 2) := by decide +kernel
theorem dX7_odds_124 : decode cX7_odds 124 = .ok (.iload 4, 2) := by decide +kernel
theorem dX7_odds_126 : decode cX7_odds 126 = .ok (.ifCond .ne 11, 3) := by decide +kernel
theorem dX7_odds_129 : decode cX7_odds 129 = .ok (.iload 5, 2) := by decide +kernel
theorem dX7_odds_131 : decode cX7_odds 131 = .ok (.iload 7, 2) := by decide +kernel
theorem dX7_odds_133 : decode cX7_odds 133 = .ok (.idiv, 1) := by decide +kernel
theorem dX7_odds_134 : decode cX7_odds 134 = .ok (.goto 8, 3) := by decide +kernel
theorem dX7_odds_137 : decode cX7_odds 137 = .ok (.iload 6, 2) := by decide +kernel
theorem dX7_odds_139 : decode cX7_odds 139 = .ok (.iload 7, 2) := by decide +kernel
theorem dX7_odds_141 : decode cX7_odds 141 = .ok (.idiv, 1) := by decide +kernel
theorem dX7_odds_142 : decode cX7_odds 142 = .ok (.ireturn, 1) := by decide +kernel
theorem dX7_rate_0 : decode cX7_rate 0 = .ok (.aload_n 0, 1) := by decide +kernel
theorem dX7_rate_1 : decode cX7_rate 1 = .ok (.iconst 0, 1) := by decide +kernel
theorem dX7_rate_2 : decode cX7_rate 2 = .ok (.putfield 68, 3) := by decide +kernel
theorem dX7_rate_5 : decode cX7_rate 5 = .ok (.iload_n 1, 1) := by decide +kernel
theorem dX7_rate_6 : decode cX7_rate 6 = .ok (.iconst 0, 1) := by decide +kernel
theorem dX7_rate_7 : decode cX7_rate 7 = .ok (.iconst 5, 1) := by decide +kernel
theorem dX7_rate_8 : decode cX7_rate 8 = .ok (.invokestatic 72, 3) := by decide +kernel
theorem dX7_rate_11 : decode cX7_rate 11 = .ok (.ifCond .eq 11, 3) := by decide +kernel
theorem dX7_rate_14 : decode cX7_rate 14 = .ok (.aload_n 0, 1) := by decide +kernel
theorem dX7_rate_15 : decode cX7_rate 15 = .ok (.iload_n 2, 1) := by decide +kernel
theorem dX7_rate_16 : decode cX7_rate 16 = .ok (.invokevirtual 139, 3) := by decide +kernel
theorem dX7_rate_19 : decode cX7_rate 19 = .ok (.ifCond .ne 6, 3) := by decide +kernel
theorem dX7_rate_22 : decode cX7_rate 22 = .ok (.ldc 213, 2) := by decide +kernel
theorem dX7_rate_24 : decode cX7_rate 24 = .ok (.ireturn, 1) := by decide +kernel
theorem dX7_rate_25 : decode cX7_rate 25 = .ok (.aload_n 0, 1) := by decide +kernel
theorem dX7_rate_26 : decode cX7_rate 26 = .ok (.aload_n 0, 1) := by decide +kernel
theorem dX7_rate_27 : decode cX7_rate 27 = .ok (.getfield 31, 3) := by decide +kernel
theorem dX7_rate_30 : decode cX7_rate 30 = .ok (.iload_n 2, 1) := by decide +kernel
theorem dX7_rate_31 : decode cX7_rate 31 = .ok (.invokevirtual 142, 3) := by decide +kernel
theorem dX7_rate_34 : decode cX7_rate 34 = .ok (.istore_n 3, 1) := by decide +kernel
theorem dX7_rate_35 : decode cX7_rate 35 = .ok (.iload_n 3, 1) := by decide +kernel
theorem dX7_rate_36 : decode cX7_rate 36 = .ok (.aload_n 0, 1) := by decide +kernel
theorem dX7_rate_37 : decode cX7_rate 37 = .ok (.getfield 31, 3) := by decide +kernel
theorem dX7_rate_40 : decode cX7_rate 40 = .ok (.bipush 15, 2) := by decide +kernel
theorem dX7_rate_42 : decode cX7_rate 42 = .ok (.iload_n 2, 1) := by decide +kernel
theorem dX7_rate_43 : decode cX7_rate 43 = .ok (.iadd, 1) := by decide +kernel
theorem dX7_rate_44 : decode cX7_rate 44 = .ok (.iaload, 1) := by decide +kernel
theorem dX7_rate_45 : decode cX7_rate 45 = .ok (.isub, 1) := by decide +kernel
theorem dX7_rate_46 : decode cX7_rate 46 = .ok (.istore 4, 2) := by decide +kernel
theorem dX7_rate_48 : decode cX7_rate 48 = .ok (.aload_n 0, 1) := by decide +kernel
theorem dX7_rate_49 : decode cX7_rate 49 = .ok (.dup, 1) := by decide +kernel
theorem dX7_rate_50 : decode cX7_rate 50 = .ok (.getfield 214, 3) := by decide +kernel
theorem dX7_rate_53 : decode cX7_rate 53 = .ok (.iload_n 1, 1) := by decide +kernel
theorem dX7_rate_54 : decode cX7_rate 54 = .ok (.ifCond .ne 7, 3) := by decide +kernel
theorem dX7_rate_57 : decode cX7_rate 57 = .ok (.lconst 1, 1) := by decide +kernel
theorem dX7_rate_58 : decode cX7_rate 58 = .ok (.goto 50, 3) := by decide +kernel
theorem dX7_rate_61 : decode cX7_rate 61 = .ok (.iload_n 1, 1) := by decide +kernel
theorem dX7_rate_62 : decode cX7_rate 62 = .ok (.iconst 1, 1) := by decide +kernel
theorem dX7_rate_63 : decode cX7_rate 63 = .ok (.if_icmp .ne 9, 3) := by decide +kernel
theorem dX7_rate_66 : decode cX7_rate 66 = .ok (.ldc2_w 218, 3) := by decide +kernel
theorem dX7_rate_69 : decode cX7_rate 69 = .ok (.goto 39, 3) := by decide +kernel
theorem dX7_rate_72 : decode cX7_rate 72 = .ok (.iload_n 1, 1) := by decide +kernel
theorem dX7_rate_73 : decode cX7_rate 73 = .ok (.iconst 2, 1) := by decide +kernel
theorem dX7_rate_74 : decode cX7_rate 74 = .ok (.if_icmp .ne 9, 3) := by decide +kernel
theorem dX7_rate_77 : decode cX7_rate 77 = .ok (.ldc2_w 220, 3) := by decide +kernel
theorem dX7_rate_80 : decode cX7_rate 80 = .ok (.goto 28, 3) := by decide +kernel
theorem dX7_rate_83 : decode cX7_rate 83 = .ok (.iload_n 1, 1) := by decide +kernel
theorem dX7_rate_84 : decode cX7_rate 84 = .ok (.iconst 3, 1) := by decide +kernel
theorem dX7_rate_85 : decode cX7_rate 85 = .ok (.if_icmp .ne 9, 3) := by decide +kernel
theorem dX7_rate_88 : decode cX7_rate 88 = .ok (.ldc2_w 222, 3) := by decide +kernel
theorem dX7_rate_91 : decode cX7_rate 91 = .ok (.goto 17, 3) := by decide +kernel
theorem dX7_rate_94 : decode cX7_rate 94 = .ok (.iload_n 1, 1) := by decide +kernel
theorem dX7_rate_95 : decode cX7_rate 95 = .ok (.iconst 4, 1) := by decide +kernel
theorem dX7_rate_96 : decode cX7_rate 96 = .ok (.if_icmp .ne 9, 3) := by decide +kernel
theorem dX7_rate_99 : decode cX7_rate 99 = .ok (.ldc2_w 224, 3) := by decide +kernel
theorem dX7_rate_102 : decode cX7_rate 102 = .ok (.goto 6, 3) := by decide +kernel
theorem dX7_rate_105 : decode cX7_rate 105 = .ok (.ldc2_w 226, 3) := by decide +kernel
theorem dX7_rate_108 : decode cX7_rate 108 = .ok (.ladd, 1) := by decide +kernel
theorem dX7_rate_109 : decode cX7_rate 109 = .ok (.putfield 214, 3) := by decide +kernel
theorem dX7_rate_112 : decode cX7_rate 112 = .ok (.iload_n 1, 1) := by decide +kernel
theorem dX7_rate_113 : decode cX7_rate 113 = .ok (.ifCond .ne 7, 3) := by decide +kernel
theorem dX7_rate_116 : decode cX7_rate 116 = .ok (.iload_n 3, 1) := by decide +kernel
theorem dX7_rate_117 : decode cX7_rate 117 = .ok (.goto 67, 3) := by decide +kernel
theorem dX7_rate_120 : decode cX7_rate 120 = .ok (.iload_n 1, 1) := by decide +kernel
theorem dX7_rate_121 : decode cX7_rate 121 = .ok (.iconst 1, 1) := by decide +kernel
theorem dX7_rate_122 : decode cX7_rate 122 = .ok (.if_icmp .ne 14, 3) := by decide +kernel
theorem dX7_rate_125 : decode cX7_rate 125 = .ok (.iload_n 3, 1) := by decide +kernel
theorem dX7_rate_126 : decode cX7_rate 126 = .ok (.aload_n 0, 1) := by decide +kernel
theorem dX7_rate_127 : decode cX7_rate 127 = .ok (.getfield 16, 3) := by decide +kernel
theorem dX7_rate_130 : decode cX7_rate 130 = .ok (.iload_n 2, 1) := by decide +kernel
theorem dX7_rate_131 : decode cX7_rate 131 = .ok (.iaload, 1) := by decide +kernel
theorem dX7_rate_132 : decode cX7_rate 132 = .ok (.iadd, 1) := by decide +kernel
theorem dX7_rate_133 : decode cX7_rate 133 = .ok (.goto 51, 3) := by decide +kernel
theorem dX7_rate_136 : decode cX7_rate 136 = .ok (.iload_n 1, 1) := by decide +kernel
theorem dX7_rate_137 : decode cX7_rate 137 = .ok (.iconst 2, 1) := by decide +kernel
theorem dX7_rate_138 : decode cX7_rate 138 = .ok (.if_icmp .ne 8, 3) := by decide +kernel
theorem dX7_rate_141 : decode cX7_rate 141 = .ok (.iload 4, 2) := by decide +kernel
theorem dX7_rate_143 : decode cX7_rate 143 = .ok (.goto 41, 3) := by decide +kernel
theorem dX7_rate_146 : decode cX7_rate 146 = .ok (.iload_n 1, 1) := by decide +kernel
theorem dX7_rate_147 : decode cX7_rate 147 = .ok (.iconst 3, 1) := by decide +kernel
theorem dX7_rate_148 : decode cX7_rate 148 = .ok (.if_icmp .ne 16, 3) := by decide +kernel
theorem dX7_rate_151 : decode cX7_rate 151 = .ok (.iconst 2, 1) := by decide +kernel
theorem dX7_rate_152 : decode cX7_rate 152 = .ok (.iload_n 3, 1) := by decide +kernel
theorem dX7_rate_153 : decode cX7_rate 153 = .ok (.aload_n 0, 1) := by decide +kernel
theorem dX7_rate_154 : decode cX7_rate 154 = .ok (.getfield 16, 3) := by decide +kernel
theorem dX7_rate_157 : decode cX7_rate 157 = .ok (.iload_n 2, 1) := by decide +kernel
theorem dX7_rate_158 : decode cX7_rate 158 = .ok (.iaload, 1) := by decide +kernel
theorem dX7_rate_159 : decode cX7_rate 159 = .ok (.iadd, 1) := by decide +kernel
theorem dX7_rate_160 : decode cX7_rate 160 = .ok (.imul, 1) := by decide +kernel
theorem dX7_rate_161 : decode cX7_rate 161 = .ok (.goto 23, 3) := by decide +kernel
theorem dX7_rate_164 : decode cX7_rate 164 = .ok (.iload_n 1, 1) := by decide +kernel
theorem dX7_rate_165 : decode cX7_rate 165 = .ok (.iconst 4, 1) := by decide +kernel
theorem dX7_rate_166 : decode cX7_rate 166 = .ok (.if_icmp .ne 10, 3) := by decide +kernel
theorem dX7_rate_169 : decode cX7_rate 169 = .ok (.iload 4, 2) := by decide +kernel
theorem dX7_rate_171 : decode cX7_rate 171 = .ok (.iload_n 2, 1) := by decide +kernel
theorem dX7_rate_172 : decode cX7_rate 172 = .ok (.iadd, 1) := by decide +kernel
theorem dX7_rate_173 : decode cX7_rate 173 = .ok (.goto 11, 3) := by decide +kernel
theorem dX7_rate_176 : decode cX7_rate 176 = .ok (.iload_n 3, 1) := by decide +kernel
theorem dX7_rate_177 : decode cX7_rate 177 = .ok (.aload_n 0, 1) := by decide +kernel
theorem dX7_rate_178 : decode cX7_rate 178 = .ok (.getfield 31, 3) := by decide +kernel
theorem dX7_rate_181 : decode cX7_rate 181 = .ok (.iconst 1, 1) := by decide +kernel
theorem dX7_rate_182 : decode cX7_rate 182 = .ok (.iaload, 1) := by decide +kernel
theorem dX7_rate_183 : decode cX7_rate 183 = .ok (.iadd, 1) := by decide +kernel
theorem dX7_rate_184 : decode cX7_rate 184 = .ok (.ireturn, 1) := by decide +kernel
theorem dX7_keep_0 : decode cX7_keep 0 = .ok (.aload_n 0, 1) := by decide +kernel
theorem dX7_keep_1 : decode cX7_keep 1 = .ok (.iconst 0, 1) := by decide +kernel
theorem dX7_keep_2 : decode cX7_keep 2 = .ok (.putfield 68, 3) := by decide +kernel
theorem dX7_keep_5 : decode cX7_keep 5 = .ok (.iload_n 1, 1) := by decide +kernel
theorem dX7_keep_6 : decode cX7_keep 6 = .ok (.iconst 0, 1) := by decide +kernel
theorem dX7_keep_7 : decode cX7_keep 7 = .ok (.iconst 1, 1) := by decide +kernel
theorem dX7_keep_8 : decode cX7_keep 8 = .ok (.invokestatic 72, 3) := by decide +kernel
theorem dX7_keep_11 : decode cX7_keep 11 = .ok (.ifCond .ne 5, 3) := by decide +kernel
theorem dX7_keep_14 : decode cX7_keep 14 = .ok (.iconst (-1), 1) := by decide +kernel
theorem dX7_keep_15 : decode cX7_keep 15 = .ok (.ireturn, 1) := by decide +kernel
theorem dX7_keep_16 : decode cX7_keep 16 = .ok (.iconst 0, 1) := by decide +kernel
theorem dX7_keep_17 : decode cX7_keep 17 = .ok (.istore_n 2, 1) := by decide +kernel
theorem dX7_keep_18 : decode cX7_keep 18 = .ok (.iload_n 2, 1) := by decide +kernel
theorem dX7_keep_19 : decode cX7_keep 19 = .ok (.bipush 21, 2) := by decide +kernel
theorem dX7_keep_21 : decode cX7_keep 21 = .ok (.if_icmp .ge 26, 3) := by decide +kernel
theorem dX7_keep_24 : decode cX7_keep 24 = .ok (.aload_n 0, 1) := by decide +kernel
theorem dX7_keep_25 : decode cX7_keep 25 = .ok (.getfield 37, 3) := by decide +kernel
theorem dX7_keep_28 : decode cX7_keep 28 = .ok (.bipush 21, 2) := by decide +kernel
theorem dX7_keep_30 : decode cX7_keep 30 = .ok (.iload_n 1, 1) := by decide +kernel
theorem dX7_keep_31 : decode cX7_keep 31 = .ok (.imul, 1) := by decide +kernel
theorem dX7_keep_32 : decode cX7_keep 32 = .ok (.iload_n 2, 1) := by decide +kernel
theorem dX7_keep_33 : decode cX7_keep 33 = .ok (.iadd, 1) := by decide +kernel
theorem dX7_keep_34 : decode cX7_keep 34 = .ok (.aload_n 0, 1) := by decide +kernel
theorem dX7_keep_35 : decode cX7_keep 35 = .ok (.getfield 31, 3) := by decide +kernel
theorem dX7_keep_38 : decode cX7_keep 38 = .ok (.iload_n 2, 1) := by decide +kernel
theorem dX7_keep_39 : decode cX7_keep 39 = .ok (.iaload, 1) := by decide +kernel
theorem dX7_keep_40 : decode cX7_keep 40 = .ok (.iastore, 1) := by decide +kernel
theorem dX7_keep_41 : decode cX7_keep 41 = .ok (.iinc 2 1, 3) := by decide +kernel
theorem dX7_keep_44 : decode cX7_keep 44 = .ok (.goto (-26), 3) := by decide +kernel
theorem dX7_keep_47 : decode cX7_keep 47 = .ok (.aload_n 0, 1) := by decide +kernel
theorem dX7_keep_48 : decode cX7_keep 48 = .ok (.getfield 40, 3) := by decide +kernel
theorem dX7_keep_51 : decode cX7_keep 51 = .ok (.iload_n 1, 1) := by decide +kernel
theorem dX7_keep_52 : decode cX7_keep 52 = .ok (.iconst 1, 1) := by decide +kernel
theorem dX7_keep_53 : decode cX7_keep 53 = .ok (.bastore, 1) := by decide +kernel
theorem dX7_keep_54 : decode cX7_keep 54 = .ok (.aload_n 0, 1) := by decide +kernel
theorem dX7_keep_55 : decode cX7_keep 55 = .ok (.getfield 31, 3) := by decide +kernel
theorem dX7_keep_58 : decode cX7_keep 58 = .ok (.iconst 0, 1) := by decide +kernel
theorem dX7_keep_59 : decode cX7_keep 59 = .ok (.iaload, 1) := by decide +kernel
theorem dX7_keep_60 : decode cX7_keep 60 = .ok (.ireturn, 1) := by decide +kernel
theorem dX7_back_0 : decode cX7_back 0 = .ok (.aload_n 0, 1) := by decide +kernel
theorem dX7_back_1 : decode cX7_back 1 = .ok (.iconst 0, 1) := by decide +kernel
theorem dX7_back_2 : decode cX7_back 2 = .ok (.putfield 68, 3) := by decide +kernel
theorem dX7_back_5 : decode cX7_back 5 = .ok (.iload_n 1, 1) := by decide +kernel
theorem dX7_back_6 : decode cX7_back 6 = .ok (.iconst 0, 1) := by decide +kernel
theorem dX7_back_7 : decode cX7_back 7 = .ok (.iconst 1, 1) := by decide +kernel
theorem dX7_back_8 : decode cX7_back 8 = .ok (.invokestatic 72, 3) := by decide +kernel
theorem dX7_back_11 : decode cX7_back 11 = .ok (.ifCond .ne 5, 3) := by decide +kernel
theorem dX7_back_14 : decode cX7_back 14 = .ok (.iconst (-1), 1) := by decide +kernel
theorem dX7_back_15 : decode cX7_back 15 = .ok (.ireturn, 1) := by decide +kernel
theorem dX7_back_16 : decode cX7_back 16 = .ok (.aload_n 0, 1) := by decide +kernel
theorem dX7_back_17 : decode cX7_back 17 = .ok (.getfield 40, 3) := by decide +kernel
theorem dX7_back_20 : decode cX7_back 20 = .ok (.iload_n 1, 1) := by decide +kernel
theorem dX7_back_21 : decode cX7_back 21 = .ok (.baload, 1) := by decide +kernel
theorem dX7_back_22 : decode cX7_back 22 = .ok (.ifCond .ne 6, 3) := by decide +kernel
theorem dX7_back_25 : decode cX7_back 25 = .ok (.bipush (-2), 2) := by decide +kernel
theorem dX7_back_27 : decode cX7_back 27 = .ok (.ireturn, 1) := by decide +kernel
theorem dX7_back_28 : decode cX7_back 28 = .ok (.iconst 0, 1) := by decide +kernel
theorem dX7_back_29 : decode cX7_back 29 = .ok (.istore_n 2, 1) := by decide +kernel
theorem dX7_back_30 : decode cX7_back 30 = .ok (.iload_n 2, 1) := by decide +kernel
theorem dX7_back_31 : decode cX7_back 31 = .ok (.bipush 21, 2) := by decide +kernel
theorem dX7_back_33 : decode cX7_back 33 = .ok (.if_icmp .ge 26, 3) := by decide +kernel
theorem dX7_back_36 : decode cX7_back 36 = .ok (.aload_n 0, 1) := by decide +kernel
theorem dX7_back_37 : decode cX7_back 37 = .ok (.getfield 31, 3) := by decide +kernel
theorem dX7_back_40 : decode cX7_back 40 = .ok (.iload_n 2, 1) := by decide +kernel
theorem dX7_back_41 : decode cX7_back 41 = .ok (.aload_n 0, 1) := by decide +kernel
theorem dX7_back_42 : decode cX7_back 42 = .ok (.getfield 37, 3) := by decide +kernel
theorem dX7_back_45 : decode cX7_back 45 = .ok (.bipush 21, 2) := by decide +kernel
theorem dX7_back_47 : decode cX7_back 47 = .ok (.iload_n 1, 1) := by decide +kernel
theorem dX7_back_48 : decode cX7_back 48 = .ok (.imul, 1) := by decide +kernel
theorem dX7_back_49 : decode cX7_back 49 = .ok (.iload_n 2, 1) := by decide +kernel
theorem dX7_back_50 : decode cX7_back 50 = .ok (.iadd, 1) := by decide +kernel
theorem dX7_back_51 : decode cX7_back 51 = .ok (.iaload, 1) := by decide +kernel
theorem dX7_back_52 : decode cX7_back 52 = .ok (.iastore, 1) := by decide +kernel
theorem dX7_back_53 : decode cX7_back 53 = .ok (.iinc 2 1, 3) := by decide +kernel
theorem dX7_back_56 : decode cX7_back 56 = .ok (.goto (-26), 3) := by decide +kernel
theorem dX7_back_59 : decode cX7_back 59 = .ok (.aload_n 0, 1) := by decide +kernel
theorem dX7_back_60 : decode cX7_back 60 = .ok (.iconst 0, 1) := by decide +kernel
theorem dX7_back_61 : decode cX7_back 61 = .ok (.putfield 133, 3) := by decide +kernel
theorem dX7_back_64 : decode cX7_back 64 = .ok (.aload_n 0, 1) := by decide +kernel
theorem dX7_back_65 : decode cX7_back 65 = .ok (.getfield 31, 3) := by decide +kernel
theorem dX7_back_68 : decode cX7_back 68 = .ok (.iconst 0, 1) := by decide +kernel
theorem dX7_back_69 : decode cX7_back 69 = .ok (.iaload, 1) := by decide +kernel
theorem dX7_back_70 : decode cX7_back 70 = .ok (.ireturn, 1) := by decide +kernel
theorem dX7_count_0 : decode cX7_count 0 = .ok (.aload_n 0, 1) := by decide +kernel
theorem dX7_count_1 : decode cX7_count 1 = .ok (.iconst 0, 1) := by decide +kernel
theorem dX7_count_2 : decode cX7_count 2 = .ok (.putfield 68, 3) := by decide +kernel
theorem dX7_count_5 : decode cX7_count 5 = .ok (.iload_n 1, 1) := by decide +kernel
theorem dX7_count_6 : decode cX7_count 6 = .ok (.iconst 0, 1) := by decide +kernel
theorem dX7_count_7 : decode cX7_count 7 = .ok (.iconst 5, 1) := by decide +kernel
theorem dX7_count_8 : decode cX7_count 8 = .ok (.invokestatic 72, 3) := by decide +kernel
theorem dX7_count_11 : decode cX7_count 11 = .ok (.ifCond .eq 12, 3) := by decide +kernel
theorem dX7_count_14 : decode cX7_count 14 = .ok (.aload_n 0, 1) := by decide +kernel
theorem dX7_count_15 : decode cX7_count 15 = .ok (.getfield 13, 3) := by decide +kernel
theorem dX7_count_18 : decode cX7_count 18 = .ok (.iload_n 1, 1) := by decide +kernel
theorem dX7_count_19 : decode cX7_count 19 = .ok (.iaload, 1) := by decide +kernel
theorem dX7_count_20 : decode cX7_count 20 = .ok (.goto 30, 3) := by decide +kernel
theorem dX7_count_23 : decode cX7_count 23 = .ok (.iload_n 1, 1) := by decide +kernel
theorem dX7_count_24 : decode cX7_count 24 = .ok (.bipush 6, 2) := by decide +kernel
theorem dX7_count_26 : decode cX7_count 26 = .ok (.if_icmp .ne 10, 3) := by decide +kernel
theorem dX7_count_29 : decode cX7_count 29 = .ok (.aload_n 0, 1) := by decide +kernel
theorem dX7_count_30 : decode cX7_count 30 = .ok (.getfield 130, 3) := by decide +kernel
theorem dX7_count_33 : decode cX7_count 33 = .ok (.goto 17, 3) := by decide +kernel
theorem dX7_count_36 : decode cX7_count 36 = .ok (.iload_n 1, 1) := by decide +kernel
theorem dX7_count_37 : decode cX7_count 37 = .ok (.bipush 7, 2) := by decide +kernel
theorem dX7_count_39 : decode cX7_count 39 = .ok (.if_icmp .ne 10, 3) := by decide +kernel
theorem dX7_count_42 : decode cX7_count 42 = .ok (.aload_n 0, 1) := by decide +kernel
theorem dX7_count_43 : decode cX7_count 43 = .ok (.getfield 76, 3) := by decide +kernel
theorem dX7_count_46 : decode cX7_count 46 = .ok (.goto 4, 3) := by decide +kernel
theorem dX7_count_49 : decode cX7_count 49 = .ok (.iconst (-1), 1) := by decide +kernel
theorem dX7_count_50 : decode cX7_count 50 = .ok (.ireturn, 1) := by decide +kernel
theorem dX7_trace_0 : decode cX7_trace 0 = .ok (.aload_n 0, 1) := by decide +kernel
theorem dX7_trace_1 : decode cX7_trace 1 = .ok (.iconst 0, 1) := by decide +kernel
theorem dX7_trace_2 : decode cX7_trace 2 = .ok (.putfield 68, 3) := by decide +kernel
theorem dX7_trace_5 : decode cX7_trace 5 = .ok (.aload_n 0, 1) := by decide +kernel
theorem dX7_trace_6 : decode cX7_trace 6 = .ok (.getfield 214, 3) := by decide +kernel
theorem dX7_trace_9 : decode cX7_trace 9 = .ok (.lreturn, 1) := by decide +kernel
